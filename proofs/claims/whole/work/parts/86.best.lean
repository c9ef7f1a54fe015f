/-! What lives, and THE BEST MATCHES as a mathematical value -/
def smD (p : Nat → Nat) (n : Nat) : Nat → Nat
  | 0 => 0
  | d + 1 => smD p n d + p (n - 1 - d)
theorem smD_ge {p : Nat → Nat} {n w : Nat} : ∀ {d : Nat}, d ≤ n → w < n → n - 1 - w < d → p w ≤ smD p n d
  | 0, _, _, h => absurd h (by omega)
  | d + 1, hd, hw, h => by
    rw [smD]
    by_cases e : w = n - 1 - d
    · rw [← e]; omega
    · have := smD_ge (p := p) (n := n) (w := w) (d := d) (by omega) hw (by omega)
      omega
theorem smD_ge2 {p : Nat → Nat} {n w w' : Nat} (hne : w ≠ w') : ∀ {d : Nat}, d ≤ n → w < n → w' < n → n - 1 - w < d → n - 1 - w' < d → p w + p w' ≤ smD p n d
  | 0, _, _, _, h, _ => absurd h (by omega)
  | d + 1, hd, hw, hw', h, h' => by
    rw [smD]
    by_cases e : w = n - 1 - d
    · have := smD_ge (p := p) (n := n) (w := w') (d := d) (by omega) hw' (by omega)
      rw [← e]; omega
    · by_cases e' : w' = n - 1 - d
      · have := smD_ge (p := p) (n := n) (w := w) (d := d) (by omega) hw (by omega)
        rw [← e']; omega
      · have := smD_ge2 (p := p) (n := n) hne (d := d) (by omega) hw hw' (by omega) (by omega)
        omega
theorem us_sum {g : Gr} (hw : wfG g) {m : Nat} {ov : Nat → Nat} {x : Nat} : ∀ {d : Nat}, d ≤ g.1 → us g (cnt ov m) d x = cnt ov m x + smD (fun w => if UU g m ov w = 0 then 0 else inc (g.2 w) x) g.1 d
  | 0, _ => rfl
  | d + 1, hd => by
    rw [us, us_sum hw (d := d) (by omega), smD, UU_at hw (show d < g.1 by omega)]
    omega
/-- the uses of a vertex: outputs, and parts of what lives -/
theorem UU_sum {g : Gr} (hw : wfG g) (m : Nat) (ov : Nat → Nat) (x : Nat) : UU g m ov x = cnt ov m x + smD (fun w => if UU g m ov w = 0 then 0 else inc (g.2 w) x) g.1 g.1 := us_sum hw (Nat.le_refl _)
theorem lvs_t {g : Gr} {m : Nat} {ov : Nat → Nat} {x : Nat} : lvs g m ov x = true ↔ UU g m ov x ≠ 0 := by
  unfold lvs
  cases h : UU g m ov x with
  | zero => simp
  | succ n => simp
theorem inc_le_UU {g : Gr} (hw : wfG g) {m : Nat} {ov : Nat → Nat} {w x : Nat} (h : w < g.1) (hl : lvs g m ov w = true) : inc (g.2 w) x ≤ UU g m ov x := by
  have := smD_ge (p := fun w => if UU g m ov w = 0 then 0 else inc (g.2 w) x) (n := g.1) (w := w) (Nat.le_refl _) h (by omega)
  simp only [if_neg (lvs_t.mp hl)] at this
  rw [UU_sum hw m ov x]
  omega
theorem lvs_1 {g : Gr} (hw : wfG g) {m : Nat} {ov : Nat → Nat} {w : Nat} (h : w < g.1) (hl : lvs g m ov w = true) (hf : (g.2 w).1 ≠ 0) : lvs g m ov (g.2 w).2.1 = true := by
  have := inc_le_UU hw (x := (g.2 w).2.1) h hl
  rw [lvs_t]
  unfold inc at this
  rw [if_pos ⟨hf, rfl⟩] at this
  omega
theorem lvs_2 {g : Gr} (hw : wfG g) {m : Nat} {ov : Nat → Nat} {w : Nat} (h : w < g.1) (hl : lvs g m ov w = true) (hf : (g.2 w).1 = 2) : lvs g m ov (g.2 w).2.2 = true := by
  have := inc_le_UU hw (x := (g.2 w).2.2) h hl
  rw [lvs_t]
  unfold inc at this
  rw [if_pos (c := (g.2 w).1 = 2 ∧ (g.2 w).2.2 = (g.2 w).2.2) ⟨hf, rfl⟩] at this
  omega
/-- a PIN that a match may have: none, or a living vertex below top -/
def okP (g : Gr) (m : Nat) (ov : Nat → Nat) (top : Nat) (x : Int32) : Prop := x = -4 ∨ ∃ u, u < top ∧ lvs g m ov u = true ∧ x = nI u
theorem ptA_ok {g : Gr} (hw : wfG g) {m : Nat} {ov : Nat → Nat} {v : Nat} (hv : v < g.1) (hl : lvs g m ov v = true) (hf : (g.2 v).1 = 2) (b : Bool) : ptA g b v < v ∧ lvs g m ov (ptA g b v) = true := by
  unfold ptA
  obtain ⟨-, w2, w3⟩ := hw v hv
  cases b with
  | true => exact ⟨w3 hf, lvs_2 hw hv hl hf⟩
  | false => exact ⟨w2 (by omega), lvs_1 hw hv hl (by omega)⟩
theorem mstep_inv {g : Gr} {rt tb : Nat → Bool} {s i : Nat} {q q' : List Nat × Pns × Nat} (h : mstep g rt tb s i q = some q') : ∃ v r, q.1 = v :: r ∧ ((s < 6 ∧ (q.2.1 s = -4 ∨ q.2.1 s = nI v) ∧ q' = (r, upd q.2.1 s (nI v), q.2.2)) ∨ (s = 7 ∧ (g.2 v).1 = 2 ∧ (i = 0 ∨ rt v = false) ∧ q' = (ptA g (tb q.2.2) v :: ptA g (!(tb q.2.2)) v :: r, q.2.1, q.2.2 + 1)) ∨ (6 ≤ s ∧ s ≠ 7 ∧ (g.2 v).1 = 1 ∧ (i = 0 ∨ rt v = false) ∧ q' = ((g.2 v).2.1 :: r, q.2.1, q.2.2))) := by
  obtain ⟨L, P, a⟩ := q
  cases L with
  | nil => cases h
  | cons v r =>
    refine ⟨v, r, rfl, ?_⟩
    unfold mstep at h
    simp only at h ⊢
    by_cases h6 : s < 6
    · rw [if_pos h6] at h
      by_cases hp : P s = -4 ∨ P s = nI v
      · rw [if_pos hp] at h; cases h; exact Or.inl ⟨h6, hp, rfl⟩
      · rw [if_neg hp] at h; cases h
    · rw [if_neg h6] at h
      by_cases hp : (g.2 v).1 = (if s = 7 then 2 else 1) ∧ (i = 0 ∨ rt v = false)
      · rw [if_pos hp] at h
        by_cases h7 : s = 7
        · rw [if_pos h7] at h hp
          cases h
          exact Or.inr (Or.inl ⟨h7, hp.1, hp.2, rfl⟩)
        · rw [if_neg h7] at h hp
          cases h
          exact Or.inr (Or.inr ⟨by omega, h7, hp.1, hp.2, rfl⟩)
      · rw [if_neg hp] at h; cases h
theorem okP_upd {g : Gr} {m : Nat} {ov : Nat → Nat} {top : Nat} {P : Pns} (hP : ∀ p, okP g m ov top (P p)) {s v : Nat} (hv : v < top) (hl : lvs g m ov v = true) : ∀ p, okP g m ov top (upd P s (nI v) p) := fun p => by
  unfold upd
  by_cases e : p = s
  · rw [if_pos e]; exact Or.inr ⟨v, hv, hl, rfl⟩
  · rw [if_neg e]; exact hP p
theorem mstep_ok {g : Gr} (hw : wfG g) {m : Nat} {ov : Nat → Nat} {rt tb : Nat → Bool} {top s i : Nat} (ht : top < g.1) {q q' : List Nat × Pns × Nat} (h : mstep g rt tb s i q = some q') (hL : ∀ x ∈ q.1, lvs g m ov x = true ∧ x < top) (hP : ∀ p, okP g m ov top (q.2.1 p)) : (∀ x ∈ q'.1, lvs g m ov x = true ∧ x < top) ∧ ∀ p, okP g m ov top (q'.2.1 p) := by
  obtain ⟨v, r, e, h⟩ := mstep_inv h
  rw [e] at hL
  obtain ⟨l1, l2⟩ := hL v List.mem_cons_self
  have hr : ∀ x ∈ r, lvs g m ov x = true ∧ x < top := fun x hx => hL x (List.mem_cons_of_mem _ hx)
  rcases h with ⟨h6, hp, rfl⟩ | ⟨h7, hf, -, rfl⟩ | ⟨-, h7, hf, -, rfl⟩
  · exact ⟨hr, okP_upd hP l2 l1⟩
  · refine ⟨fun x hx => ?_, hP⟩
    have o := ptA_ok hw (m := m) (ov := ov) (show v < g.1 by omega) l1 hf
    rcases List.mem_cons.mp hx with rfl | hx
    · have := o (tb q.2.2); exact ⟨this.2, by omega⟩
    · rcases List.mem_cons.mp hx with rfl | hx
      · have := o (!(tb q.2.2)); exact ⟨this.2, by omega⟩
      · exact hr x hx
  · refine ⟨fun x hx => ?_, hP⟩
    rcases List.mem_cons.mp hx with rfl | hx
    · have := (hw v (by omega)).2.1 (by omega)
      exact ⟨lvs_1 hw (by omega) l1 (by omega), by omega⟩
    · exact hr x hx
theorem mrun_ok {g : Gr} (hw : wfG g) {m : Nat} {ov : Nat → Nat} {rt : Nat → Bool} {sy : Nat → Nat} {tb : Nat → Bool} {top : Nat} (ht : top < g.1) : ∀ (f i : Nat) (q : List Nat × Pns × Nat), (∀ x ∈ q.1, lvs g m ov x = true ∧ x < top) → (∀ p, okP g m ov top (q.2.1 p)) → ∀ p, okP g m ov top ((mrun g rt sy tb f i q).2.2 p)
  | 0, i, q, _, hP => hP
  | f + 1, i, q, hL, hP => by
    rw [mrun]
    cases h : mstep g rt tb (sy i) i q with
    | none => exact hP
    | some q' =>
      obtain ⟨a, b⟩ := mstep_ok hw ht h hL hP
      exact mrun_ok hw ht f (i + 1) q' a b
/-- behind the first symbol all lies below top -/
theorem mstep_0 {g : Gr} (hw : wfG g) {m : Nat} {ov : Nat → Nat} {rt tb : Nat → Bool} {top s : Nat} (ht : top < g.1) (hl : lvs g m ov top = true) (h6 : 6 ≤ s) {q' : List Nat × Pns × Nat} (h : mstep g rt tb s 0 ([top], fun _ => -4, 0) = some q') : (∀ x ∈ q'.1, lvs g m ov x = true ∧ x < top) ∧ q'.2.1 = fun _ => -4 := by
  obtain ⟨v, r, e, h⟩ := mstep_inv h
  have e1 := (List.cons.inj e).1
  have e2 := (List.cons.inj e).2
  subst e1
  subst e2
  rcases h with ⟨h6', -, -⟩ | ⟨h7, hf, -, rfl⟩ | ⟨-, h7, hf, -, rfl⟩
  · exact absurd h6' (by omega)
  · refine ⟨fun x hx => ?_, rfl⟩
    have o := ptA_ok hw (m := m) (ov := ov) ht hl hf
    rcases List.mem_cons.mp hx with rfl | hx
    · exact ⟨(o _).2, (o _).1⟩
    · rcases List.mem_cons.mp hx with rfl | hx
      · exact ⟨(o _).2, (o _).1⟩
      · simp at hx
  · refine ⟨fun x hx => ?_, rfl⟩
    rcases List.mem_cons.mp hx with rfl | hx
    · exact ⟨lvs_1 hw ht hl (by omega), (hw top ht).2.1 (by omega)⟩
    · simp at hx
theorem pn_ok {g : Gr} (hw : wfG g) {m : Nat} {ov : Nat → Nat} {rt : Nat → Bool} {q : Cel} (ho : okCel q) {top : Nat} (ht : top < g.1) (hl : lvs g m ov top = true) (t : Nat) : ∀ p, okP g m ov top (pn g rt q top t p) := by
  unfold pn mat
  obtain ⟨f, e⟩ : ∃ f, q.2.2.1 = f + 1 := ⟨q.2.2.1 - 1, by have := ho.1; omega⟩
  generalize nns q.2.2.2 q.2.2.1 = n
  rw [e, mrun]
  cases h : mstep g rt (tbt n (nI t)) (q.2.2.2 0) 0 ([top], fun _ => -4, 0) with
  | none => exact fun _ => Or.inl rfl
  | some q' =>
    obtain ⟨a, b⟩ := mstep_0 hw (m := m) (ov := ov) ht hl ho.2.2.2.2 h
    exact mrun_ok hw ht f 1 q' a (by rw [b]; exact fun _ => Or.inl rfl)
/-- of a vertex: the best cell (-4: none), its AREA, its ARRIVAL, its PINs -/
abbrev Bst : Type := Int32 × Int32 × Int32 × Pns
def b0 : Bst := (-4, 0, 0, fun _ => -4)
/-- a cover's question: the graph, the outputs, the library, how, without which -/
def Cq : Type := Gr × Nat × (Nat → Nat) × Nat × (Nat → Cel) × (Nat → Bool) × Int32 × Int32
def Cq.g (Q : Cq) : Gr := Q.1
def Cq.m (Q : Cq) : Nat := Q.2.1
def Cq.ov (Q : Cq) : Nat → Nat := Q.2.2.1
def Cq.c (Q : Cq) : Nat := Q.2.2.2.1
def Cq.lib (Q : Cq) : Nat → Cel := Q.2.2.2.2.1
def Cq.th (Q : Cq) : Nat → Bool := Q.2.2.2.2.2.1
def Cq.how (Q : Cq) : Int32 := Q.2.2.2.2.2.2.1
def Cq.wo (Q : Cq) : Int32 := Q.2.2.2.2.2.2.2
def mkQ (g : Gr) (m : Nat) (ov : Nat → Nat) (c : Nat) (lib : Nat → Cel) (th : Nat → Bool) (how wo : Int32) : Cq := (g, m, ov, c, lib, th, how, wo)
def Cq.lv (Q : Cq) : Nat → Bool := lvs Q.g Q.m Q.ov
def Cq.rt (Q : Cq) : Nat → Bool := rts Q.g Q.m Q.ov
def Cq.hv (Q : Cq) (bs : Nat → Bst) (u : Nat) : Bool := ((Q.g.2 u).1 == 0 && Q.lv u) || !((bs u).1 == -4)
/-- the sum of AREAs and the latest ARRIVAL over the first p PINs -/
def Cq.wf (Q : Cq) (bs : Nat → Bst) (P : Pns) (a : Int32) : Nat → Int32 × Int32
  | 0 => (a, 0)
  | p + 1 => if P p = -4 then Q.wf bs P a p else (if Q.rt (P p).toNatClampNeg then (Q.wf bs P a p).1 else (Q.wf bs P a p).1 + (bs (P p).toNatClampNeg).2.1, if (Q.wf bs P a p).2 < (bs (P p).toNatClampNeg).2.2.1 then (bs (P p).toNatClampNeg).2.2.1 else (Q.wf bs P a p).2)
def Cq.can (Q : Cq) (bs : Nat → Bst) (P : Pns) : Nat → Bool
  | 0 => true
  | p + 1 => Q.can bs P p && (P p == -4 || Q.hv bs (P p).toNatClampNeg)
def lexl (a b c d : Int32) : Bool := decide (a < c) || (decide (a = c) && decide (b < d))
def Cq.btr (Q : Cq) (s l : Int32) (x : Bst) : Bool := if Q.how = 0 then lexl s l x.2.1 x.2.2.1 else lexl l s x.2.2.1 x.2.1
def Cq.wgh (Q : Cq) (bs : Nat → Bst) (d : Nat) (P : Pns) (x : Bst) : Bst := if Q.can bs P 6 && (x.1 == -4 || Q.btr (Q.wf bs P (Q.lib d).1 6).1 ((Q.lib d).2.1 + (Q.wf bs P (Q.lib d).1 6).2) x) then (nI d, (Q.wf bs P (Q.lib d).1 6).1, (Q.lib d).2.1 + (Q.wf bs P (Q.lib d).1 6).2, P) else x
/-- over the first t turns of cell d at v -/
def Cq.tf (Q : Cq) (bs : Nat → Bst) (v d : Nat) (x : Bst) : Nat → Bst
  | 0 => x
  | t + 1 => if ft Q.g Q.rt (Q.lib d) v t then Q.wgh bs d (pn Q.g Q.rt (Q.lib d) v t) (Q.tf bs v d x t) else Q.tf bs v d x t
/-- over the first d cells -/
def Cq.cf (Q : Cq) (bs : Nat → Bst) (v : Nat) : Nat → Bst
  | 0 => b0
  | d + 1 => if Q.th d = true ∧ ¬ nI d = Q.wo then Q.tf bs v d (Q.cf bs v d) (tns (Q.lib d)) else Q.cf bs v d
def Cq.b1 (Q : Cq) (bs : Nat → Bst) (v : Nat) : Bst := if Q.lv v = true ∧ (Q.g.2 v).1 ≠ 0 then Q.cf bs v Q.c else b0
/-- the first v vertices -/
def Cq.bs (Q : Cq) : Nat → Nat → Bst
  | 0 => fun _ => b0
  | v + 1 => fun x => if x = v then Q.b1 (Q.bs v) v else Q.bs v x
theorem Cq.bs_lt (Q : Cq) {u : Nat} : ∀ {v : Nat}, u < v → Q.bs v u = Q.b1 (Q.bs u) u
  | 0, h => absurd h (by omega)
  | v + 1, h => by
    show (if u = v then Q.b1 (Q.bs v) v else Q.bs v u) = Q.b1 (Q.bs u) u
    by_cases e : u = v
    · rw [if_pos e, e]
    · rw [if_neg e]; exact Cq.bs_lt Q (by omega)
theorem Cq.bs_eq (Q : Cq) {u v w : Nat} (h1 : u < v) (h2 : u < w) : Q.bs v u = Q.bs w u := by rw [Q.bs_lt h1, Q.bs_lt h2]
/-- the least root without a match, below v -/
def Cq.bad (Q : Cq) (v : Nat) : Option Nat := gfind (fun u => Q.rt u && ((Q.b1 (Q.bs u) u).1 == -4)) v
