/-! The walk: what waits, what is done -/
def dfs (ch : Nat → List Nat) : Nat → List Nat → List Nat → List Nat
  | 0, _, dn => dn
  | _ + 1, [], dn => dn
  | n + 1, v :: st, dn => dfs ch n (ch v ++ st) (v :: dn)
/-- behind the roots below r -/
def Cq.dal (Q : Cq) : Nat → List Nat
  | 0 => []
  | r + 1 => if Q.rt r then dfs Q.ch 200 [r] (Q.dal r) else Q.dal r
/-- what holds on the walk below root R -/
def Cq.Iv (Q : Cq) (R : Nat) (st dn : List Nat) : Prop := (st ++ dn).Nodup ∧ (∀ x ∈ st ++ dn, Q.D x ∧ (Q.rt x = true → x ≤ R) ∧ (Q.rt x = false → ∃ w p, w ∈ dn ∧ p < 6 ∧ Q.P w p = nI x)) ∧ (∀ v ∈ dn, ∀ u ∈ Q.ch v, u ∈ st ++ dn)
theorem Cq.Iv.len {Q : Cq} (h : Q.ok) {R : Nat} {st dn : List Nat} (hi : Q.Iv R st dn) : st.length + dn.length ≤ 160 := by
  have := nd_le Q.g.1 (st ++ dn) hi.1 (fun x hx => by
    obtain ⟨n, hn⟩ := (hi.2.1 x hx).1
    exact (Q.D_m h n x hn).1)
  rw [List.length_append] at this
  have := h.2.1
  omega
theorem Cq.chs_nd {Q : Cq} (h : Q.ok) {v : Nat} (hv : Q.D v) : ∀ {n : Nat}, n ≤ 6 → (Q.chs v n).Nodup
  | 0, _ => by simp [Cq.chs]
  | n + 1, hn => by
    have ih := Cq.chs_nd h hv (n := n) (by omega)
    rw [Cq.chs]
    by_cases z : Q.inP (Q.P v (5 - n)) = true
    · rw [if_pos z, List.nodup_cons]
      refine ⟨fun hm => ?_, ih⟩
      obtain ⟨k, hk⟩ := id hv
      obtain ⟨a, b, -⟩ := Q.D_m h k v hk
      obtain ⟨u, u1, u2, u3, u4, u5⟩ := Q.in_p h a b (show 5 - n < 6 by omega) z
      obtain ⟨p, p1, p2, p3, p4⟩ := Cq.chs_m (by omega) hm
      obtain ⟨u', v1, v2, v3, v4, v5⟩ := Q.in_p h a b p2 p3
      rw [u3, v3] at p4
      subst p4
      have := (Q.D_uniq h hv hv u4 (by omega) (show 5 - n < 6 by omega) p2 u2 v2).2
      omega
    · rw [if_neg z]; exact ih
/-- one step of the walk -/
theorem Cq.Iv.stp {Q : Cq} (h : Q.ok) {R v : Nat} {st dn : List Nat} (hi : Q.Iv R (v :: st) dn) : Q.Iv R (Q.ch v ++ st) (v :: dn) ∧ (∀ u ∈ Q.ch v, u ∉ v :: dn) := by
  obtain ⟨h1, h2, h3⟩ := hi
  have hvm : v ∈ v :: st ++ dn := by simp
  obtain ⟨dv, rv, pv⟩ := h2 v hvm
  obtain ⟨k, hk⟩ := id dv
  obtain ⟨va, vb, -⟩ := Q.D_m h k v hk
  have hnd : (st ++ dn).Nodup ∧ v ∉ st ++ dn := by
    rw [List.cons_append, List.nodup_cons] at h1
    exact ⟨h1.2, h1.1⟩
  -- a child is new
  have new : ∀ u ∈ Q.ch v, u ∉ v :: st ++ dn ∧ insd Q.g Q.m Q.ov u ∧ ∃ p, p < 6 ∧ Q.P v p = nI u := fun u hu => by
    obtain ⟨p, p1, p2, p3, p4⟩ := Cq.chs_m (Nat.le_refl 6) hu
    obtain ⟨u', v1, v2, v3, v4, v5⟩ := Q.in_p h va vb p2 p3
    rw [v3] at p4
    subst p4
    refine ⟨fun hm => ?_, v4, p, p2, v2⟩
    obtain ⟨w, p', w1, w2, w3⟩ := (h2 u hm).2.2 v4.2.1
    have dw := (h2 w (by simp [w1])).1
    have e := (Q.D_uniq h dv dw v4 (by omega) p2 w2 v2 w3).1
    subst e
    exact hnd.2 (by simp [w1])
  refine ⟨⟨?_, fun x hx => ?_, fun w hw u hu => ?_⟩, fun u hu hm => (new u hu).1 (by
    rcases List.mem_cons.mp hm with rfl | hm
    · simp
    · simp [hm])⟩
  · have e1 : (Q.ch v ++ st ++ v :: dn).Perm (Q.ch v ++ (v :: st ++ dn)) := by
      rw [List.append_assoc]
      exact List.Perm.append_left _ (List.perm_middle)
    rw [e1.nodup_iff, List.nodup_append]
    refine ⟨Q.chs_nd h dv (Nat.le_refl 6), h1, fun a ha b hb e => ?_⟩
    subst e
    exact (new a ha).1 hb
  · have hx' : x ∈ Q.ch v ∨ x ∈ v :: st ++ dn := by
      simp only [List.mem_append, List.mem_cons] at hx ⊢
      rcases hx with (h | h) | h | h
      · exact Or.inl h
      · exact Or.inr (Or.inl (Or.inr h))
      · exact Or.inr (Or.inl (Or.inl h))
      · exact Or.inr (Or.inr h)
    rcases hx' with hx' | hx'
    · obtain ⟨-, n2, p, n3, n4⟩ := new x hx'
      have n2' : Q.rt x = false := n2.2.1
      exact ⟨Q.D_ch dv hx', fun q => (by rw [n2'] at q; cases q), fun _ => ⟨v, p, List.mem_cons_self, n3, n4⟩⟩
    · obtain ⟨a, b, c⟩ := h2 x hx'
      refine ⟨a, b, fun q => ?_⟩
      obtain ⟨w, p, w1, w2⟩ := c q
      exact ⟨w, p, List.mem_cons_of_mem _ w1, w2⟩
  · rcases List.mem_cons.mp hw with rfl | hw
    · simp [hu]
    · have := h3 w hw u hu
      simp only [List.mem_append, List.mem_cons] at this ⊢
      rcases this with (h | h) | h
      · exact Or.inr (Or.inl h)
      · exact Or.inl (Or.inr h)
      · exact Or.inr (Or.inr h)
/-- the walk ends with nothing waiting -/
theorem Cq.Iv.run {Q : Cq} (h : Q.ok) {R : Nat} : ∀ (n : Nat) (st dn : List Nat), Q.Iv R st dn → 161 ≤ n + dn.length → Q.Iv R [] (dfs Q.ch n st dn) ∧ ∀ x, x ∈ st ++ dn → x ∈ dfs Q.ch n st dn
  | 0, st, dn, hi, hn => by
    have := hi.len h
    omega
  | n + 1, [], dn, hi, hn => ⟨hi, fun x hx => hx⟩
  | n + 1, v :: st, dn, hi, hn => by
    obtain ⟨a, b⟩ := Cq.Iv.run h n (Q.ch v ++ st) (v :: dn) (hi.stp h).1 (by simp; omega)
    rw [dfs]
    refine ⟨a, fun x hx => b x ?_⟩
    simp only [List.mem_append, List.mem_cons] at hx ⊢
    rcases hx with (h | h) | h
    · exact Or.inr (Or.inl h)
    · exact Or.inl (Or.inr h)
    · exact Or.inr (Or.inr h)
theorem Cq.Iv.up {Q : Cq} {R R' : Nat} {st dn : List Nat} (hi : Q.Iv R st dn) (hr : R ≤ R') : Q.Iv R' st dn := ⟨hi.1, fun x hx => ⟨(hi.2.1 x hx).1, fun q => Nat.le_trans ((hi.2.1 x hx).2.1 q) hr, (hi.2.1 x hx).2.2⟩, hi.2.2⟩
/-- behind the roots below r: nothing waits, all of them are done -/
theorem Cq.dal_ok {Q : Cq} (h : Q.ok) : ∀ (r : Nat), r ≤ Q.g.1 → (Q.Iv r [] (Q.dal r) ∧ ∀ x ∈ Q.dal r, Q.rt x = true → x < r) ∧ ∀ x, x < r → Q.rt x = true → x ∈ Q.dal r
  | 0, _ => ⟨⟨⟨by simp [Cq.dal], fun x hx => by simp [Cq.dal] at hx, fun x hx => by simp [Cq.dal] at hx⟩, fun x hx => by simp [Cq.dal] at hx⟩, fun x hx => absurd hx (by omega)⟩
  | r + 1, hr => by
    obtain ⟨⟨a, b⟩, c⟩ := Cq.dal_ok h r (by omega)
    rw [Cq.dal]
    cases hq : Q.rt r with
    | false =>
      rw [if_neg (by decide)]
      refine ⟨⟨a.up (by omega), fun x hx q => by have := b x hx q; omega⟩, fun x hx q => ?_⟩
      by_cases e : x = r
      · rw [e, hq] at q; cases q
      · exact c x (by omega) q
    | true =>
      rw [if_pos rfl]
      have hi : Q.Iv r [r] (Q.dal r) := by
        refine ⟨?_, fun x hx => ?_, fun v hv u hu => ?_⟩
        · rw [List.singleton_append, List.nodup_cons]
          exact ⟨fun hm => by have := b r hm hq; omega, a.1⟩
        · rcases List.mem_append.mp hx with hx | hx
          · have e : x = r := by simpa using hx
            subst e
            exact ⟨⟨0, by omega, hq⟩, fun _ => Nat.le_refl _, fun q => by rw [hq] at q; cases q⟩
          · exact a.2.1 x hx
        · have := a.2.2 v hv u hu
          exact List.mem_append_right _ this
      obtain ⟨d, e⟩ := hi.run h 200 [r] (Q.dal r) (by omega)
      refine ⟨⟨d.up (by omega), fun x hx q => ?_⟩, fun x hx q => ?_⟩
      · have := (d.2.1 x hx).2.1 q
        omega
      · by_cases z : x = r
        · exact e x (by simp [z])
        · exact e x (List.mem_append_right _ (c x (by omega) q))
/-- the sum of the AREAs -/
def Cq.asm (Q : Cq) : List Nat → Int32
  | [] => 0
  | v :: r => Q.asm r + (Q.lib (Q.bs Q.g.1 v).1.toNatClampNeg).1
