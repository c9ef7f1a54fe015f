/-! The history's truth; drop(), undo() -/
def HV (ou : Nat → Nat) : List Nat → Nat → Nat → Nat → Prop
  | [], n, m, c => n = 0 ∧ m = 0 ∧ c = 0
  | 0 :: r, n, m, c => ∃ n', n = n' + 1 ∧ HV ou r n' m c
  | 1 :: r, n, m, c => ∃ m', m = m' + 1 ∧ ou m' < n ∧ HV ou r n m' c
  | 2 :: r, n, m, c => ∃ c', c = c' + 1 ∧ HV ou r n m c'
  | (d + 3) :: r, n, m, c => d < c ∧ (d + 3) ∉ r ∧ HV ou r n m c
/-- a cell is there while it isn't dropped -/
def thL (L : List Nat) : Nat → Bool := fun d => !(L.contains (d + 3))
theorem thL_t {L : List Nat} {d : Nat} : thL L d = true ↔ (d + 3) ∉ L := by
  unfold thL
  simp
theorem HV_lt {ou : Nat → Nat} : ∀ {L : List Nat} {n m c : Nat}, HV ou L n m c → (∀ o, o < m → ou o < n) ∧ (∀ d, (d + 3) ∈ L → d < c)
  | [], n, m, c, h => ⟨fun o ho => by have := h.2.1; omega, fun d hd => by simp at hd⟩
  | 0 :: r, n, m, c, h => by
    obtain ⟨n', e, h⟩ := h
    obtain ⟨a, b⟩ := HV_lt h
    exact ⟨fun o ho => by have := a o ho; omega, fun d hd => b d (by simpa using hd)⟩
  | 1 :: r, n, m, c, h => by
    obtain ⟨m', e, hl, h⟩ := h
    obtain ⟨a, b⟩ := HV_lt h
    refine ⟨fun o ho => ?_, fun d hd => b d (by simpa using hd)⟩
    by_cases z : o = m'
    · subst z; exact hl
    · exact a o (by omega)
  | 2 :: r, n, m, c, h => by
    obtain ⟨c', e, h⟩ := h
    obtain ⟨a, b⟩ := HV_lt h
    exact ⟨a, fun d hd => by have := b d (by simpa using hd); omega⟩
  | (x + 3) :: r, n, m, c, h => by
    obtain ⟨h1, h2, h⟩ := h
    obtain ⟨a, b⟩ := HV_lt h
    refine ⟨a, fun d hd => ?_⟩
    rcases List.mem_cons.mp hd with e | hd
    · omega
    · exact b d hd
theorem HV_cg {ou ou' : Nat → Nat} : ∀ {L : List Nat} {n m c : Nat}, HV ou L n m c → (∀ o, o < m → ou' o = ou o) → HV ou' L n m c
  | [], _, _, _, h, _ => h
  | 0 :: r, n, m, c, h, hq => by
    obtain ⟨n', e, h⟩ := h
    exact ⟨n', e, HV_cg h hq⟩
  | 1 :: r, n, m, c, h, hq => by
    obtain ⟨m', e, hl, h⟩ := h
    exact ⟨m', e, by rw [hq m' (by omega)]; exact hl, HV_cg h (fun o ho => hq o (by omega))⟩
  | 2 :: r, n, m, c, h, hq => by
    obtain ⟨c', e, h⟩ := h
    exact ⟨c', e, HV_cg h hq⟩
  | (x + 3) :: r, n, m, c, h, hq => ⟨h.1, h.2.1, HV_cg h.2.2 hq⟩
/-- numbers below k, each once: at most k of them -/
theorem nd_le : ∀ (k : Nat) (l : List Nat), l.Nodup → (∀ x ∈ l, x < k) → l.length ≤ k
  | 0, l, _, h => by
    cases l with
    | nil => simp
    | cons a r => exact absurd (h a (by simp)) (by omega)
  | k + 1, l, hn, h => by
    have h1 := nd_le k (l.filter (fun x => x ≠ k)) (hn.filter _) (fun x hx => by
      have := List.mem_filter.mp hx
      have h2 := h x this.1
      have h3 : x ≠ k := by simpa using this.2
      omega)
    have h2 : l.length ≤ (l.filter (fun x => x ≠ k)).length + 1 := by
      clear h1 h
      induction l with
      | nil => simp
      | cons a r ih =>
        have hn' := List.nodup_cons.mp hn
        by_cases e : a = k
        · subst e
          have : r.filter (fun x => decide (x ≠ a)) = r := List.filter_eq_self.mpr (fun x hx => by
            have : x ≠ a := fun e => hn'.1 (e ▸ hx)
            simp [this])
          have e2 : (a :: r).filter (fun x => decide (x ≠ a)) = r := by rw [List.filter_cons_of_neg (by simp), this]
          rw [e2]
          simp
        · have := ih hn'.2
          simp [e] at this ⊢
          omega
    omega
def drs (L : List Nat) : List Nat := L.filter (fun x => decide (3 ≤ x))
theorem HV_len {ou : Nat → Nat} : ∀ {L : List Nat} {n m c : Nat}, HV ou L n m c → L.length = n + m + c + (drs L).length ∧ (drs L).Nodup
  | [], n, m, c, h => by
    obtain ⟨a, b, d⟩ := h
    subst a; subst b; subst d
    exact ⟨rfl, List.nodup_nil⟩
  | 0 :: r, n, m, c, h => by
    obtain ⟨n', e, h⟩ := h
    obtain ⟨a, b⟩ := HV_len h
    have : drs (0 :: r) = drs r := by simp [drs]
    rw [this]
    exact ⟨by simp; omega, b⟩
  | 1 :: r, n, m, c, h => by
    obtain ⟨m', e, hl, h⟩ := h
    obtain ⟨a, b⟩ := HV_len h
    have : drs (1 :: r) = drs r := by simp [drs]
    rw [this]
    exact ⟨by simp; omega, b⟩
  | 2 :: r, n, m, c, h => by
    obtain ⟨c', e, h⟩ := h
    obtain ⟨a, b⟩ := HV_len h
    have : drs (2 :: r) = drs r := by simp [drs]
    rw [this]
    exact ⟨by simp; omega, b⟩
  | (x + 3) :: r, n, m, c, h => by
    obtain ⟨h1, h2, h⟩ := h
    obtain ⟨a, b⟩ := HV_len h
    have : drs ((x + 3) :: r) = (x + 3) :: drs r := by simp [drs]
    rw [this]
    refine ⟨by simp; omega, List.nodup_cons.mpr ⟨fun hm => h2 (List.mem_filter.mp hm).1, b⟩⟩
/-- how long a history can be -/
theorem HV_88 {ou : Nat → Nat} {L : List Nat} {n m c : Nat} (h : HV ou L n m c) : L.length ≤ n + m + c + c := by
  obtain ⟨a, b⟩ := HV_len h
  have hl := (HV_lt h).2
  have : (drs L).length ≤ c := by
    have h3 : ∀ x ∈ drs L, 3 ≤ x ∧ x < c + 3 := fun x hx => by
      have := List.mem_filter.mp hx
      have h3 : 3 ≤ x := by simpa using this.2
      have := hl (x - 3) (by rw [show x - 3 + 3 = x by omega]; exact this.1)
      omega
    have := nd_le c ((drs L).map (fun x => x - 3)) (by
      refine List.pairwise_map.mpr (List.Pairwise.imp_of_mem ?_ b)
      intro x y hx hy hne
      have := h3 x hx
      have := h3 y hy
      omega) (fun x hx => by
      obtain ⟨y, hy, e⟩ := List.mem_map.mp hx
      have := h3 y hy
      omega)
    simpa using this
  omega
theorem c_has {c : Nat} (hc : c ≤ 20) {lib : Nat → Cel} {th : Nat → Bool} {S : St} (h : PlC c lib th S) (x : Int32) : f_X3_has x S = some (b01 (inR x c && th x.toNatClampNeg), S) := by
  unfold f_X3_has j_X3_has_28 j_X3_has_29
  simp only [h.1, le_nI (show c < 2 ^ 31 by omega), lt_0I, show bz 0 = true from by decide, show bz 1 = true from by decide]
  by_cases h1 : x.toInt < 0
  · rw [if_pos h1, show inR x c = false from decide_eq_false (by omega)]; rfl
  · rw [if_neg h1]
    by_cases h2 : (c : Int) ≤ x.toInt
    · rw [if_pos h2, show inR x c = false from decide_eq_false (by omega)]; rfl
    · have hin : inR x c = true := decide_eq_true (by omega)
      obtain ⟨a, ha, rfl⟩ := inR_t hin (by omega)
      rw [if_neg h2, hin, gd_t (ix_nI (show a < 20 by omega) (by decide)), nI_clamp (show a < 2 ^ 31 by omega), (h.2 a ha).2.2.2]
      cases th a <;> rfl
theorem m_isCell {c : Nat} (hc : c ≤ 20) {lib : Nat → Cel} {th : Nat → Bool} {T : St} (h : PlM c lib th T) (x : Int32) : f_X9_isCell x T = some (b01 (inR x c && th x.toNatClampNeg), T) := by
  unfold f_X9_isCell j_X9_isCell_29 j_X9_isCell_30
  rw [h.1, bi_e (f_in0 x (by omega) T)]
  cases hin : inR x c with
  | false => rfl
  | true =>
    obtain ⟨a, ha, rfl⟩ := inR_t hin (by omega)
    rw [if_neg (show ¬ b01 true = 0 from by decide), gd_t (ix_nI (show a < 20 by omega) (by decide)), lt_, nI_clamp (show a < 2 ^ 31 by omega), (h.2 a ha).2.2.2.2]
    cases th a <;> rfl
theorem thL_drop (L : List Nat) (d : Nat) : thL ((d + 3) :: L) = addL (thL L) d false := by
  funext e
  unfold thL addL
  by_cases z : e = d
  · subst z; simp
  · rw [if_neg z]
    simp [show e + 3 ≠ d + 3 by omega, z]
theorem X_drop {c d : Nat} (hc : c ≤ 20) (hd : d < c) {lib : Nat → Cel} {L : List Nat} {S : St} (hP : PlC c lib (thL L) S) (hth : thL L d = true) (hL : PhC L S) (hl8 : L.length < 88) : ∃ S', f_X8_drop (nI d) S = some (1, S') ∧ PlC c lib (thL ((d + 3) :: L)) S' ∧ PhC ((d + 3) :: L) S' ∧ S' 0 0 8 = 0 ∧ Same [(8, d), (7, 0), (35, 0), (0, 0)] S S' := by
  unfold f_X8_drop
  rw [bi_e (c_has hc hP _), inR_nI (by omega), nI_clamp (show d < 2 ^ 31 by omega), hth, decide_eq_true hd, if_neg (show ¬ b01 (true && true) = 0 from by decide), gd_t (ix_nI (show d < 20 by omega) (by decide)), lt_, show (3 : Int32) + nI d = nI (d + 3) from by rw [show (3 : Int32) = nI 3 from rfl, nI_add, Nat.add_comm]]
  have s1 : Same [(8, d)] S (put S 8 d 6 0) := Same.rf.put (by simp)
  obtain ⟨S2, a1, a2, a3, a4⟩ := c_note (x := d + 3) (hL.keep (s1.keep (by simp))) hl8
  rw [bv_e a1]
  refine ⟨S2, rfl, ⟨by rw [a4 4 0 (by decide), put_ne (by omega)]; exact hP.1, fun e he => ?_⟩, a2, a3, (s1.mono (by simp)).tr (a4.mono (by simp))⟩
  obtain ⟨⟨b1, b2, b3, b4⟩, b5, b6, b7⟩ := hP.2 e he
  have r8 : ∀ j, j ≠ 6 → S2 8 e j = S 8 e j := fun j hj => by
    rw [a4 8 e (by simp), put_at, if_neg (fun q => hj q.2.2)]
  have r36 : S2 36 e = S 36 e := by rw [a4 36 e (by simp), put_ne (by omega)]
  refine ⟨⟨by rw [r8 1 (by decide)]; exact b1, by rw [r8 2 (by decide)]; exact b2, by rw [r8 3 (by decide)]; exact b3, by rw [r36]; exact b4⟩, by rw [r8 4 (by decide)]; exact b5, by rw [r8 5 (by decide)]; exact b6, ?_⟩
  rw [thL_drop, a4 8 e (by simp), put_at]
  by_cases z : e = d
  · subst z; rw [if_pos ⟨rfl, rfl, rfl⟩, addL_at]; rfl
  · rw [if_neg (fun q => z q.2.1), addL_ne z]; exact b7
theorem X_drop_no {c : Nat} (hc : c ≤ 20) {lib : Nat → Cel} {th : Nat → Bool} {S : St} (hP : PlC c lib th S) (x : Int32) (h : (inR x c && th x.toNatClampNeg) = false) : f_X8_drop x S = some (-1, S) := by
  unfold f_X8_drop
  rw [bi_e (c_has hc hP _), h, if_pos (show b01 false = 0 from rfl)]
theorem M_drop {c d : Nat} (hc : c ≤ 20) (hd : d < c) {lib : Nat → Cel} {L : List Nat} {T : St} (hP : PlM c lib (thL L) T) (hth : thL L d = true) (hL : PhM L T) (hl8 : L.length < 88) : ∃ T', f_X9_drop (nI d) T = some (1, T') ∧ PlM c lib (thL ((d + 3) :: L)) T' ∧ PhM ((d + 3) :: L) T' ∧ T' 0 0 10 = 0 ∧ Same [(16, 0), (6, 0), (7, 0), (0, 0)] T T' ∧ ∀ j, j ≠ 7 → j ≠ 10 → T' 0 0 j = T 0 0 j := by
  unfold f_X9_drop
  rw [bi_e (m_isCell hc hP _), inR_nI (by omega), nI_clamp (show d < 2 ^ 31 by omega), hth, decide_eq_true hd, if_neg (show ¬ b01 (true && true) = 0 from by decide), gd_t (ix_nI (show d < 20 by omega) (by decide)), lt_, nz_0]
  have s1 : Same [(16, 0)] T (put T 16 0 d 0) := Same.rf.put (by simp)
  obtain ⟨T2, a1, a2, a3, a4, a5⟩ := m_did (x := d + 3) (a := 3) (b := nI d) (hL.keep (s1.keep (by decide)) (fun j hj => by rw [put_o rfl])) hl8 (by rw [if_neg (by omega)]) (fun _ => rfl)
  rw [bv_e a1]
  have s02 : Same [(16, 0), (6, 0), (7, 0), (0, 0)] T T2 := (s1.mono (by decide)).tr (a4.mono (by decide))
  refine ⟨T2, rfl, ⟨by rw [a5 22 (by decide) (by decide), put_o rfl]; exact hP.1, fun e he => ?_⟩, a2, a3, s02, fun j x y => by rw [a5 j x y, put_o rfl]⟩
  obtain ⟨b1, b2, b3, b4, b5⟩ := hP.2 e he
  refine ⟨b1.cg (s02.keep (by decide)), by rw [s02 17 0 (by decide)]; exact b2, by rw [s02 18 0 (by decide)]; exact b3, by rw [s02 19 0 (by decide)]; exact b4, ?_⟩
  rw [thL_drop, a4 16 0 (by decide), put_jj]
  by_cases z : e = d
  · subst z; rw [if_pos rfl, addL_at]; rfl
  · rw [if_neg z, addL_ne z]; exact b5
theorem M_drop_no {c : Nat} (hc : c ≤ 20) {lib : Nat → Cel} {th : Nat → Bool} {T : St} (hP : PlM c lib th T) (x : Int32) (h : (inR x c && th x.toNatClampNeg) = false) : f_X9_drop x T = some (-1, T) := by
  unfold f_X9_drop
  rw [bi_e (m_isCell hc hP _), h, if_pos (show b01 false = 0 from rfl)]
