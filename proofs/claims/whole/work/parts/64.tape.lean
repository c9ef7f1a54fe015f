/-! THE TAPE: blanks and numbers -/
def sk (tp : Nat → Int32) (ln : Nat) : Nat → Nat → Nat
  | 0, p => p
  | f + 1, p => if p < ln ∧ tp p = 32 then sk tp ln f (p + 1) else p
def skp (tp : Nat → Int32) (ln p : Nat) : Nat := sk tp ln (ln - p) p
theorem sk_le (tp : Nat → Int32) {ln : Nat} : ∀ (f p : Nat), p ≤ ln → p ≤ sk tp ln f p ∧ sk tp ln f p ≤ ln
  | 0, p, h => ⟨Nat.le_refl p, h⟩
  | f + 1, p, h => by
    rw [sk]
    split
    · rename_i q
      have := sk_le tp (ln := ln) f (p + 1) (by omega)
      exact ⟨by omega, this.2⟩
    · exact ⟨Nat.le_refl p, h⟩
theorem skp_le (tp : Nat → Int32) {ln p : Nat} (h : p ≤ ln) : p ≤ skp tp ln p ∧ skp tp ln p ≤ ln := sk_le tp _ p h
theorem skp_step {tp : Nat → Int32} {ln p : Nat} (h : p < ln) (h2 : tp p = 32) : skp tp ln p = skp tp ln (p + 1) := by
  unfold skp
  rw [show ln - p = (ln - (p + 1)) + 1 by omega, sk, if_pos ⟨h, h2⟩]
theorem skp_stop {tp : Nat → Int32} {ln p : Nat} (h : ¬ (p < ln ∧ tp p = 32)) : skp tp ln p = p := by
  unfold skp
  cases ln - p with
  | zero => rfl
  | succ f => rw [sk, if_neg h]
def TC (ln : Nat) (tp : Nat → Int32) (S : St) : Prop := S 3 0 1 = nI ln ∧ ∀ j, j < ln → S 23 0 j = tp j
def TM (ln : Nat) (tp : Nat → Int32) (T : St) : Prop := T 0 0 20 = nI ln ∧ ∀ j, j < ln → T 15 0 j = tp j
theorem put_id (S : St) (k i j : Nat) : put S k i j (S k i j) = S := by
  funext k' i' j'
  rw [put_at]
  split
  · rename_i h
    obtain ⟨rfl, rfl, rfl⟩ := h
    rfl
  · rfl
theorem put_pp (S : St) (k i j : Nat) (v w : Int32) : put (put S k i j v) k i j w = put S k i j w := by
  funext k' i' j'
  simp only [put_at]
  split <;> rfl
theorem TC.p2 {ln : Nat} {tp : Nat → Int32} {S : St} {x : Int32} (h : TC ln tp S) : TC ln tp (put S 3 0 2 x) := ⟨by rw [put_j (by decide)]; exact h.1, by rw [put_o rfl]; exact h.2⟩
theorem TM.p33 {ln : Nat} {tp : Nat → Int32} {T : St} {x : Int32} (h : TM ln tp T) : TM ln tp (put T 0 0 33 x) := ⟨by rw [put_j (by decide)]; exact h.1, by rw [put_o rfl]; exact h.2⟩
theorem c_skl {ln : Nat} (hl : ln ≤ 60) {tp : Nat → Int32} : ∀ (f p : Nat) (S : St), TC ln tp S → S 3 0 2 = nI p → p ≤ ln → ln - p < f → l_X6_skipBlanks_0 f S = some (put S 3 0 2 (nI (skp tp ln p))) := by
  intro f
  induction f with
  | zero => intro p S _ _ _ h; exact absurd h (by omega)
  | succ f ih =>
    intro p S h hp hpl hf
    rw [show l_X6_skipBlanks_0 (f + 1) = b_X6_skipBlanks_0 (l_X6_skipBlanks_0 f) from rfl]
    unfold b_X6_skipBlanks_0
    rw [h.1, hp]
    by_cases e : p = ln
    · subst e
      rw [if_pos (nI_le (Nat.le_refl _) (by omega)), skp_stop (by omega), ← hp, put_id]
    · have hlt : p < ln := by omega
      rw [if_neg (nI_ge hlt (by omega))]
      simp only [ix_nI (show p < 60 by omega) (by decide), gd, lt_, nI_clamp (show p < 2 ^ 31 by omega), h.2 p hlt, nI_1]
      by_cases q : tp p = 32
      · rw [if_pos q, ih (p + 1) _ h.p2 (put_self _ _ _ _ _) (by omega) (by omega), put_pp, skp_step hlt q]
      · rw [if_neg q, skp_stop (fun y => q y.2), ← hp, put_id]
theorem c_skip {ln : Nat} (hl : ln ≤ 60) {tp : Nat → Int32} {p : Nat} {S : St} (h : TC ln tp S) (hp : S 3 0 2 = nI p) (hpl : p ≤ ln) : f_X6_skipBlanks S = some (put S 3 0 2 (nI (skp tp ln p))) := c_skl hl 5000 p S h hp hpl (by omega)
/-- the byte at a place, -1 behind the end -/
def bat (tp : Nat → Int32) (ln p : Nat) : Int32 := if p < ln then tp p else -1
theorem m_byteAt {ln : Nat} (hl : ln ≤ 60) {tp : Nat → Int32} {p : Nat} {T : St} (h : TM ln tp T) (hp : p ≤ ln) : f_X9_byteAt (nI p) T = some (bat tp ln p, T) := by
  unfold f_X9_byteAt j_X9_byteAt_18 bat
  rw [h.1]
  by_cases e : p < ln
  · rw [if_neg (nI_ge e (by omega)), if_pos e]
    simp only [ix_nI (show p < 60 by omega) (by decide), gd, lt_, nI_clamp (show p < 2 ^ 31 by omega), h.2 p e]
  · rw [if_pos (nI_le (by omega) (by omega)), if_neg e]
theorem m_skl {ln : Nat} (hl : ln ≤ 60) {tp : Nat → Int32} : ∀ (f p : Nat) (T : St), TM ln tp T → T 0 0 33 = nI p → p ≤ ln → ln - p < f → l_X9_blanks_0 f T = some (put T 0 0 33 (nI (skp tp ln p))) := by
  intro f
  induction f with
  | zero => intro p T _ _ _ h; exact absurd h (by omega)
  | succ f ih =>
    intro p T h hp hpl hf
    rw [show l_X9_blanks_0 (f + 1) = b_X9_blanks_0 (l_X9_blanks_0 f) from rfl]
    unfold b_X9_blanks_0
    rw [hp, bi_e (m_byteAt hl h hpl)]
    simp only [hp, lt_, nI_1]
    by_cases q : p < ln ∧ tp p = 32
    · rw [if_pos (by unfold bat; rw [if_pos q.1]; exact q.2), ih (p + 1) _ h.p33 (put_self _ _ _ _ _) (by omega) (by omega), put_pp, skp_step q.1 q.2]
    · rw [if_neg (by
        unfold bat
        by_cases z : p < ln
        · rw [if_pos z]; exact fun y => q ⟨z, y⟩
        · rw [if_neg z]; decide), skp_stop q, ← hp, put_id]
theorem m_skip {ln : Nat} (hl : ln ≤ 60) {tp : Nat → Int32} {p : Nat} {T : St} (h : TM ln tp T) (hp : T 0 0 33 = nI p) (hpl : p ≤ ln) : f_X9_blanks T = some (put T 0 0 33 (nI (skp tp ln p))) := m_skl hl 5000 p T h hp hpl (by omega)
def dig (tp : Nat → Int32) (ln p : Nat) : Bool := decide (p < ln ∧ 48 ≤ (tp p).toInt ∧ (tp p).toInt ≤ 57)
theorem c_dig {ln : Nat} (hl : ln ≤ 60) {tp : Nat → Int32} {p : Nat} {S : St} (h : TC ln tp S) (hp : S 3 0 2 = nI p) (hpl : p ≤ ln) : f_X6_isAtDigit S = some (b01 (dig tp ln p), S) := by
  unfold f_X6_isAtDigit j_X6_isAtDigit_43 j_X6_isAtDigit_44 dig
  rw [h.1, hp]
  simp only [show bz 0 = true from by decide, show bz 1 = true from by decide, gd]
  by_cases e : p < ln
  · rw [if_neg (nI_ge e (by omega))]
    simp only [ix_nI (show p < 60 by omega) (by decide), lt_, nI_clamp (show p < 2 ^ 31 by omega), h.2 p e, Int32.lt_iff_toInt_lt, show (48 : Int32).toInt = 48 from by decide, show (57 : Int32).toInt = 57 from by decide]
    by_cases z : (tp p).toInt < 48
    · rw [if_pos z, decide_eq_false (by omega)]; rfl
    · rw [if_neg z]
      by_cases y : 57 < (tp p).toInt
      · rw [if_pos y, decide_eq_false (by omega)]; rfl
      · rw [if_neg y, decide_eq_true (by omega)]; rfl
  · rw [if_pos (nI_le (by omega) (by omega)), decide_eq_false (by omega)]; rfl
theorem m_dig {ln : Nat} {tp : Nat → Int32} {p : Nat} (T : St) : f_X9_in (bat tp ln p).toInt64 48 57 T = some (b01 (dig tp ln p), T) := by
  rw [f_in, i64_of]
  congr 3
  unfold dig bat
  exact decide_eq_decide.mpr (by
    have h1 : (48 : Int64).toInt = 48 := by decide
    have h2 : (57 : Int64).toInt = 57 := by decide
    have h3 : (-1 : Int32).toInt = -1 := by decide
    rw [h1, h2]
    by_cases e : p < ln
    · rw [if_pos e]; omega
    · rw [if_neg e, h3]; omega)
/-- up to c digits from p on: the number, and the place behind it -/
def nm (tp : Nat → Int32) (ln : Nat) : Nat → Nat → Int32 → Int32 × Nat
  | 0, p, v => (v, p)
  | c + 1, p, v => if dig tp ln p then nm tp ln c (p + 1) (10 * v + tp p - 48) else (v, p)
theorem nm_le (tp : Nat → Int32) {ln : Nat} : ∀ (c p : Nat) (v : Int32), p ≤ ln → p ≤ (nm tp ln c p v).2 ∧ (nm tp ln c p v).2 ≤ ln ∧ (nm tp ln c p v).2 ≤ p + c
  | 0, p, v, h => ⟨Nat.le_refl p, h, Nat.le_refl p⟩
  | c + 1, p, v, h => by
    rw [nm]
    split
    · rename_i q
      have hd := of_decide_eq_true q
      have := nm_le tp (ln := ln) c (p + 1) (10 * v + tp p - 48) (by omega)
      omega
    · exact ⟨Nat.le_refl p, h, by omega⟩
theorem c_nml {ln : Nat} (hl : ln ≤ 60) {tp : Nat → Int32} (K : St → Int32 → Int32 → Int32 → Int32 → Option (Int32 × St)) (x1 x2 : Int32) (s : Nat) : ∀ (f c p : Nat) (v : Int32) (S : St), TC ln tp S → S 3 0 2 = nI p → p ≤ ln → c < f → p + c = s + 3 → s ≤ p → l_X6_readNumber_12 K f S x1 x2 (nI s) v = K (put S 3 0 2 (nI (nm tp ln c p v).2)) x1 x2 (nI s) (nm tp ln c p v).1 := by
  intro f
  induction f with
  | zero => intro c p v S _ _ _ h; exact absurd h (by omega)
  | succ f ih =>
    intro c p v S h hp hpl hf hc hs
    rw [show l_X6_readNumber_12 K (f + 1) = b_X6_readNumber_12 (l_X6_readNumber_12 K f) K from rfl]
    unfold b_X6_readNumber_12
    rw [hp, pk_sub hs]
    match c with
    | 0 =>
      rw [if_pos (show (3 : Int32) ≤ nI (p - s) from nI_le (a := 3) (by omega) (by omega)), nm]
      rw [← hp, put_id]
    | c + 1 =>
      rw [if_neg (show ¬ (3 : Int32) ≤ nI (p - s) from nI_ge (b := 3) (by omega) (by decide)), bi_e (c_dig hl h hp hpl), nm]
      cases q : dig tp ln p with
      | true =>
        have hd := of_decide_eq_true q
        rw [if_neg (by simp [b01]), if_pos rfl]
        simp only [hp, ix_nI (show p < 60 by omega) (by decide), gd, lt_, nI_clamp (show p < 2 ^ 31 by omega), h.2 p hd.1, nI_1]
        rw [ih c (p + 1) _ _ h.p2 (put_self _ _ _ _ _) (by omega) (by omega) (by omega) (by omega), put_pp]
      | false =>
        rw [if_pos (show b01 false = 0 from rfl), if_neg (by simp), ← hp, put_id]
theorem m_nml {ln : Nat} (hl : ln ≤ 60) {tp : Nat → Int32} (K : St → Int32 → Int32 → Int32 → Int32 → Option (Int32 × St)) (x1 x2 : Int32) (s : Nat) : ∀ (f c p : Nat) (v : Int32) (T : St), TM ln tp T → T 0 0 33 = nI p → p ≤ ln → c < f → p + c = s + 3 → s ≤ p → l_X9_number_12 K f T x1 x2 (nI s) v = K (put T 0 0 33 (nI (nm tp ln c p v).2)) x1 x2 (nI s) (nm tp ln c p v).1 := by
  intro f
  induction f with
  | zero => intro c p v T _ _ _ h; exact absurd h (by omega)
  | succ f ih =>
    intro c p v T h hp hpl hf hc hs
    rw [show l_X9_number_12 K (f + 1) = b_X9_number_12 (l_X9_number_12 K f) K from rfl]
    unfold b_X9_number_12
    rw [hp, pk_sub hs]
    match c with
    | 0 =>
      rw [if_pos (show (3 : Int32) ≤ nI (p - s) from nI_le (a := 3) (by omega) (by omega)), nm]
      rw [← hp, put_id]
    | c + 1 =>
      rw [if_neg (show ¬ (3 : Int32) ≤ nI (p - s) from nI_ge (b := 3) (by omega) (by decide)), bi_e (m_byteAt hl h hpl), bi_e (m_dig T), nm]
      cases q : dig tp ln p with
      | true =>
        have hd := of_decide_eq_true q
        rw [if_neg (by simp [b01]), if_pos rfl]
        simp only [hp, ix_nI (show p < 60 by omega) (by decide), gd, lt_, nI_clamp (show p < 2 ^ 31 by omega), h.2 p hd.1, nI_1]
        rw [ih c (p + 1) _ _ h.p33 (put_self _ _ _ _ _) (by omega) (by omega) (by omega) (by omega), put_pp]
      | false =>
        rw [if_pos (show b01 false = 0 from rfl), if_neg (by simp), ← hp, put_id]
/-- a number read: what it is worth, the place behind it, the FAULT and its place -/
def rn2 (tp : Nat → Int32) (ln : Nat) (lo hi : Int32) (s : Nat) (r : Int32 × Nat) : Int32 × Nat × Nat × Nat :=
  if r.2 = s then (r.1, r.2, 1, s) else if r.1 < lo ∨ ¬ r.1 ≤ hi then (r.1, r.2, 2, s) else if dig tp ln r.2 = true then (r.1, r.2, 1, r.2) else (r.1, r.2, 0, 0)
def rnm (tp : Nat → Int32) (ln : Nat) (lo hi : Int32) (p : Nat) : Int32 × Nat × Nat × Nat := rn2 tp ln lo hi (skp tp ln p) (nm tp ln 3 (skp tp ln p) 0)
theorem rnm_le (tp : Nat → Int32) {ln : Nat} (lo hi : Int32) {p : Nat} (h : p ≤ ln) : (rnm tp ln lo hi p).2.1 ≤ ln ∧ (rnm tp ln lo hi p).2.2.2 ≤ ln ∧ (rnm tp ln lo hi p).2.2.1 ≤ 2 := by
  have h1 := skp_le tp h
  have h2 := nm_le tp 3 (skp tp ln p) 0 h1.2
  unfold rnm
  generalize nm tp ln 3 (skp tp ln p) 0 = r at h2
  unfold rn2
  repeat' split
  all_goals simp; omega
/-- the class keeps its place at the fault's -/
def plc (q : Int32 × Nat × Nat × Nat) : Nat := if q.2.2.1 = 0 then q.2.1 else q.2.2.2
theorem c_number {ln : Nat} (hl : ln ≤ 60) {tp : Nat → Int32} {p : Nat} {S : St} (lo hi : Int32) (h : TC ln tp S) (hp : S 3 0 2 = nI p) (hpl : p ≤ ln) (hf : S 3 0 3 = 0) : f_X6_readNumber lo hi S = some ((rnm tp ln lo hi p).1, put (put S 3 0 2 (nI (plc (rnm tp ln lo hi p)))) 3 0 3 (nI (rnm tp ln lo hi p).2.2.1)) := by
  have h1 := skp_le tp hpl
  have h2 := nm_le tp 3 (skp tp ln p) 0 h1.2
  unfold f_X6_readNumber
  rw [bv_e (c_skip hl h hp hpl)]
  simp only [lt_, put_self]
  rw [c_nml hl _ lo hi (skp tp ln p) 5000 3 (skp tp ln p) 0 _ h.p2 (put_self _ _ _ _ _) h1.2 (by omega) (by omega) (by omega), put_pp]
  unfold rnm
  generalize nm tp ln 3 (skp tp ln p) 0 = r at h2 ⊢
  unfold j_X6_readNumber_62 j_X6_readNumber_95 j_X6_readNumber_122 f_X6_failAt
  have he : (nI r.2 = nI (skp tp ln p)) = (r.2 = skp tp ln p) := nI_inj (by omega) (by omega)
  simp only [put_self, he, lt_, bi]
  by_cases z : r.2 = skp tp ln p
  · have e : rn2 tp ln lo hi (skp tp ln p) r = (r.1, r.2, 1, skp tp ln p) := by unfold rn2; rw [if_pos z]
    rw [e, if_pos z]
    simp only [put_pp, z, plc, show ((1 : Nat) = 0) = False from by simp, if_false]
    rfl
  · rw [if_neg z]
    by_cases y : r.1 < lo
    · have e : rn2 tp ln lo hi (skp tp ln p) r = (r.1, r.2, 2, skp tp ln p) := by unfold rn2; rw [if_neg z, if_pos (Or.inl y)]
      rw [e, if_pos y]
      simp only [put_pp, plc, show ((2 : Nat) = 0) = False from by simp, if_false]
      rfl
    · rw [if_neg y]
      by_cases w : r.1 ≤ hi
      · rw [if_pos w]
        have hd := c_dig (p := r.2) hl (h.p2 (x := nI r.2)) (put_self _ _ _ _ _) h2.2.1
        rw [hd]
        cases q : dig tp ln r.2 with
        | true =>
          have e : rn2 tp ln lo hi (skp tp ln p) r = (r.1, r.2, 1, r.2) := by unfold rn2; rw [if_neg z, if_neg (fun v => v.elim y (fun v => v w)), if_pos q]
          rw [e]
          simp only [put_pp, plc, show ((1 : Nat) = 0) = False from by simp, if_false, show ¬ b01 true = 0 from by decide, put_self]
          rfl
        | false =>
          have e : rn2 tp ln lo hi (skp tp ln p) r = (r.1, r.2, 0, 0) := by unfold rn2; rw [if_neg z, if_neg (fun v => v.elim y (fun v => v w)), if_neg (by rw [q]; decide)]
          rw [e]
          have e3 : put S 3 0 2 (nI r.2) 3 0 3 = nI 0 := by rw [put_j (by decide)]; exact hf
          simp only [plc, if_true, show b01 false = 0 from rfl]
          rw [← e3, put_id]
      · have e : rn2 tp ln lo hi (skp tp ln p) r = (r.1, r.2, 2, skp tp ln p) := by unfold rn2; rw [if_neg z, if_pos (Or.inr w)]
        rw [e, if_neg w]
        simp only [put_pp, plc, show ((2 : Nat) = 0) = False from by simp, if_false]
        rfl
theorem m_number {ln : Nat} (hl : ln ≤ 60) {tp : Nat → Int32} {p : Nat} {T : St} (lo hi : Int32) (h : TM ln tp T) (hp : T 0 0 33 = nI p) (hpl : p ≤ ln) (hf : T 0 0 34 = 0) (hf2 : T 0 0 35 = 0) : f_X9_number lo hi T = some ((rnm tp ln lo hi p).1, put (put (put T 0 0 33 (nI (rnm tp ln lo hi p).2.1)) 0 0 34 (nI (rnm tp ln lo hi p).2.2.1)) 0 0 35 (nI (rnm tp ln lo hi p).2.2.2)) := by
  have h1 := skp_le tp hpl
  have h2 := nm_le tp 3 (skp tp ln p) 0 h1.2
  unfold f_X9_number
  rw [bv_e (m_skip hl h hp hpl)]
  simp only [lt_, put_self]
  rw [m_nml hl _ lo hi (skp tp ln p) 5000 3 (skp tp ln p) 0 _ h.p33 (put_self _ _ _ _ _) h1.2 (by omega) (by omega) (by omega), put_pp]
  unfold rnm
  generalize nm tp ln 3 (skp tp ln p) 0 = r at h2 ⊢
  unfold j_X9_number_76 j_X9_number_145
  have he : (nI r.2 = nI (skp tp ln p)) = (r.2 = skp tp ln p) := nI_inj (by omega) (by omega)
  have e34 : put T 0 0 33 (nI r.2) 0 0 34 = 0 := by rw [put_j (by decide)]; exact hf
  have wr : ∀ a b : Int32, f_X9_wrong a b (put T 0 0 33 (nI r.2)) = some (put (put (put T 0 0 33 (nI r.2)) 0 0 34 a) 0 0 35 b) := fun a b => by
    unfold f_X9_wrong j_X9_wrong_17
    rw [if_pos e34]
    rfl
  simp only [put_self, he]
  by_cases z : r.2 = skp tp ln p
  · have e : rn2 tp ln lo hi (skp tp ln p) r = (r.1, r.2, 1, skp tp ln p) := by unfold rn2; rw [if_pos z]
    rw [e, if_pos z, bv_e (wr _ _)]
    rfl
  · rw [if_neg z, bi_e (f_in _ _ _ _)]
    simp only [i64_of]
    have hc : (r.1 < lo ∨ ¬ r.1 ≤ hi) ↔ ¬ (lo.toInt ≤ r.1.toInt ∧ r.1.toInt ≤ hi.toInt) := by
      rw [Int32.lt_iff_toInt_lt, Int32.le_iff_toInt_le]; omega
    by_cases y : lo.toInt ≤ r.1.toInt ∧ r.1.toInt ≤ hi.toInt
    · rw [decide_eq_true y, if_neg (show ¬ b01 true = 0 from by decide), put_self, bi_e (m_byteAt (p := r.2) hl (h.p33 (x := nI r.2)) h2.2.1), bi_e (m_dig _)]
      cases q : dig tp ln r.2 with
      | true =>
        have e : rn2 tp ln lo hi (skp tp ln p) r = (r.1, r.2, 1, r.2) := by unfold rn2; rw [if_neg z, if_neg (fun v => hc.mp v y), if_pos q]
        rw [e, if_neg (show ¬ b01 true = 0 from by decide), put_self, bv_e (wr _ _)]
        rfl
      | false =>
        have e : rn2 tp ln lo hi (skp tp ln p) r = (r.1, r.2, 0, 0) := by unfold rn2; rw [if_neg z, if_neg (fun v => hc.mp v y), if_neg (by rw [q]; decide)]
        rw [e, if_pos (show b01 false = 0 from rfl)]
        have e35 : put T 0 0 33 (nI r.2) 0 0 35 = nI 0 := by rw [put_j (by decide)]; exact hf2
        have e34' : put T 0 0 33 (nI r.2) 0 0 34 = nI 0 := e34
        simp only
        rw [← e34', put_id, e34', ← e35, put_id]
    · have e : rn2 tp ln lo hi (skp tp ln p) r = (r.1, r.2, 2, skp tp ln p) := by unfold rn2; rw [if_neg z, if_pos (hc.mpr y)]
      rw [e, decide_eq_false y, if_pos (show b01 false = 0 from rfl), bv_e (wr _ _)]
      rfl
