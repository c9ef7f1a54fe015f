/-! What a cell gives: valueFor of the class, cellGives of the reference -/
theorem nI_or {a b : Nat} (ha : a < 2 ^ 32) (hb : b < 2 ^ 32) : nI a ||| nI b = nI (a ||| b) := by
  apply Int32.toBitVec_inj.mp
  apply BitVec.eq_of_toNat_eq
  rw [Int32.toBitVec_or, BitVec.toNat_or, pk_tn ha, pk_tn hb, pk_tn (Nat.or_lt_two_pow ha hb)]
theorem nI_xor {a b : Nat} (ha : a < 2 ^ 32) (hb : b < 2 ^ 32) : nI a ^^^ nI b = nI (a ^^^ b) := by
  apply Int32.toBitVec_inj.mp
  apply BitVec.eq_of_toNat_eq
  rw [Int32.toBitVec_xor, BitVec.toNat_xor, pk_tn ha, pk_tn hb, pk_tn (Nat.xor_lt_two_pow ha hb)]
def nb (b : Bool) : Nat := if b then 1 else 0
theorem nb_lt (b : Bool) : nb b < 2 := by cases b <;> decide
/-- a stack of bits as one number, the top lowest -/
def enc : List Bool → Nat
  | [] => 0
  | b :: r => nb b + 2 * enc r
theorem enc_lt : ∀ (l : List Bool), enc l < 2 ^ l.length
  | [] => by decide
  | b :: r => by
    have h1 := enc_lt r
    have h2 := nb_lt b
    rw [enc, List.length_cons, Nat.pow_succ]
    omega
theorem i_push {l : List Bool} (h : l.length ≤ 13) (b : Bool) : (nI (enc l) <<< ((1 : Int32) &&& 31)) ||| b01 b = nI (enc (b :: l)) := by
  have h1 := enc_lt l
  have h2 : 2 ^ l.length ≤ 2 ^ 13 := Nat.pow_le_pow_right (by decide) h
  have h3 := nb_lt b
  rw [pk_shlN ((1 : Int32) &&& 31) 1 (by decide) (by omega), b01_n, show (if b then 1 else 0 : Nat) = nb b from rfl, nI_or (by omega) (by omega), enc]
  congr 1
  have := Nat.two_pow_add_eq_or_of_lt (i := 1) (b := nb b) (by omega) (enc l)
  rw [show (2 : Nat) ^ 1 = 2 from rfl] at this
  rw [Nat.mul_comm (enc l), show (2 : Nat) ^ 1 = 2 from rfl, ← this]
  omega
theorem i_shr {a b : Bool} {l : List Bool} (h : (a :: b :: l).length ≤ 13) : nI (enc (a :: b :: l)) >>> ((2 : Int32) &&& 31) = nI (enc l) := by
  have h1 := enc_lt (a :: b :: l)
  have h2 : 2 ^ (a :: b :: l).length ≤ 2 ^ 13 := Nat.pow_le_pow_right (by decide) h
  have h3 := nb_lt a
  have h4 := nb_lt b
  rw [pk_shrN (by omega) ((2 : Int32) &&& 31) 2 (by decide), enc, enc]
  congr 1
  omega
theorem i_and3 {a b : Bool} {l : List Bool} (h : (a :: b :: l).length ≤ 13) : (nI (enc (a :: b :: l)) &&& 3 = 3) ↔ (a && b) = true := by
  have h1 := enc_lt (a :: b :: l)
  have h2 : 2 ^ (a :: b :: l).length ≤ 2 ^ 13 := Nat.pow_le_pow_right (by decide) h
  rw [pk_andN (by omega) (m := 3) 2 (by decide), enc, enc, show (3 : Int32) = nI 3 from rfl, nI_eq (by omega) (by omega)]
  cases a <;> cases b <;> simp [nb] <;> omega
theorem i_not {a : Bool} {l : List Bool} (h : (a :: l).length ≤ 13) : nI (enc (a :: l)) ^^^ 1 = nI (enc ((!a) :: l)) := by
  have h1 := enc_lt (a :: l)
  have h2 : 2 ^ (a :: l).length ≤ 2 ^ 13 := Nat.pow_le_pow_right (by decide) h
  rw [show (1 : Int32) = nI 1 from rfl, nI_xor (by omega) (by omega)]
  congr 1
  have d : (enc (a :: l) ^^^ 1) / 2 = enc l := by
    rw [Nat.xor_div_two, enc, show (nb a + 2 * enc l) / 2 = enc l from by have := nb_lt a; omega]
    exact Nat.xor_zero _
  have e : (enc (a :: l) ^^^ 1) % 2 = nb (!a) := by
    have hh := @Nat.xor_mod_two_eq_one (enc (a :: l)) 1
    have hm : enc (a :: l) % 2 = nb a := by rw [enc]; have := nb_lt a; omega
    rw [hm] at hh
    have hlt := Nat.mod_lt (enc (a :: l) ^^^ 1) (show 0 < 2 by decide)
    cases a with
    | true =>
      have : ¬ ((enc (true :: l) ^^^ 1) % 2 = 1) := fun q => (hh.mp q) (by simp [nb])
      simp [nb]; omega
    | false =>
      have : (enc (false :: l) ^^^ 1) % 2 = 1 := hh.mpr (by simp [nb])
      simp [nb]; omega
  have h5 := Nat.div_add_mod (enc (a :: l) ^^^ 1) 2
  rw [d, e] at h5
  show enc (a :: l) ^^^ 1 = nb (!a) + 2 * enc l
  omega
theorem i_and1 {a : Bool} : nI (enc [a]) &&& 1 = b01 a := by cases a <;> decide
/-- the bit of a PIN -/
def pbt (x : Int32) (s : Nat) : Bool := decide (((x >>> (nI s &&& 31)) &&& 1) = 1)
theorem pbt_b (x : Int32) (s : Nat) : (x >>> (nI s &&& 31)) &&& 1 = b01 (pbt x s) := by
  unfold pbt
  obtain ⟨j, h1, h2⟩ := pk_andE (x >>> (nI s &&& 31)) (m := 1) 1 (by decide)
  rw [h2]
  have : j = 0 ∨ j = 1 := by omega
  rcases this with rfl | rfl <;> decide
def vstep (x : Int32) (s : Nat) (l : List Bool) : List Bool := if s = 7 then (match l with
    | a :: b :: r => (!(a && b)) :: r
    | _ => []) else if s = 6 then (match l with
    | a :: r => (!a) :: r
    | _ => []) else pbt x s :: l
/-- the values of what waits ahead of symbol k - f -/
def vs (x : Int32) (sy : Nat → Nat) (k : Nat) : Nat → List Bool
  | 0 => []
  | f + 1 => vstep x (sy (k - 1 - f)) (vs x sy k f)
theorem vs_len {x : Int32} {sy : Nat → Nat} {k : Nat} (hsy : ∀ i, i < k → sy i ≤ 7 ∧ pend sy i ≠ []) (hke : pend sy k = []) : ∀ f, f ≤ k → (vs x sy k f).length = (pend sy (k - f)).length
  | 0, _ => by rw [show k - 0 = k from rfl, hke]; rfl
  | f + 1, h => by
    have ih := vs_len (x := x) hsy hke f (by omega)
    obtain ⟨h7, hne⟩ := hsy (k - 1 - f) (by omega)
    have hl := pend_len hne
    rw [show k - 1 - f + 1 = k - f from by omega, ← ih] at hl
    have h0 : 0 < (pend sy (k - 1 - f)).length := List.length_pos_iff.mpr hne
    rw [vs, show k - (f + 1) = k - 1 - f from by omega]
    unfold vstep
    unfold nxd at hl
    by_cases a : sy (k - 1 - f) = 7
    · rw [if_pos a] at hl ⊢
      cases hv : vs x sy k f with
      | nil => rw [hv] at hl; simp at hl
      | cons u r =>
        cases r with
        | nil => rw [hv] at hl; simp only [List.length_cons, List.length_nil] at hl; omega
        | cons u2 r2 => rw [hv] at hl; simp at hl ⊢; omega
    · rw [if_neg a] at hl ⊢
      by_cases b : sy (k - 1 - f) = 6
      · rw [if_pos b] at hl ⊢
        cases hv : vs x sy k f with
        | nil => rw [hv] at hl; simp only [List.length_cons, List.length_nil] at hl; omega
        | cons u r => rw [hv] at hl; simp at hl ⊢; omega
      · rw [if_neg b] at hl ⊢
        simp
        omega
/-- what the cell gives -/
def cgv (x : Int32) (q : Cel) : Bool := (vs x q.2.2.2 q.2.2.1 q.2.2.1).headD false
theorem c_vfl {c k : Nat} {sy : Nat → Nat} (hk : k ≤ 12) (hsy : ∀ i, i < k → sy i ≤ 7 ∧ pend sy i ≠ []) (hke : pend sy k = []) {S : St} (h36 : ∀ i, i < k → S 36 c i = nI (sy i)) (x : Int32) : ∀ (F f : Nat), f ≤ k → k - f < F → l_X0_valueFor_9 c F S x (nI (enc (vs x sy k f))) (nI (k - f) - 1) = some (b01 ((vs x sy k k).headD false), S) := by
  intro F
  induction F with
  | zero => intro f _ h; exact absurd h (by omega)
  | succ F ih =>
    intro f hf hF
    rw [show l_X0_valueFor_9 c (F + 1) = b_X0_valueFor_9 c (l_X0_valueFor_9 c F) from rfl]
    unfold b_X0_valueFor_9
    have hlen := vs_len (x := x) hsy hke f hf
    have hple := pend_le sy (k - f)
    by_cases e : f = k
    · subst e
      rw [if_pos (show nI (f - f) - 1 < 0 from by rw [Nat.sub_self]; decide)]
      rw [Nat.sub_self] at hlen
      cases hv : vs x sy f f with
      | nil => rw [hv] at hlen; simp [pend] at hlen
      | cons a r =>
        cases r with
        | nil => rw [i_and1]; rfl
        | cons b r2 => rw [hv] at hlen; simp [pend] at hlen
    · have e1 : nI (k - f) - 1 = nI (k - 1 - f) := by rw [nI_s1 (by omega)]; congr 1; omega
      obtain ⟨h7, hne⟩ := hsy (k - 1 - f) (by omega)
      have ih := ih (f + 1) (by omega) (by omega)
      have e2 : nI (k - 1 - f) + (-1) = nI (k - (f + 1)) - 1 := by
        rw [show k - (f + 1) = k - 1 - f from by omega, Int32.sub_eq_add_neg]
      have q7 : (nI (sy (k - 1 - f)) = 7) ↔ (sy (k - 1 - f) = 7) := Eq.to_iff (nI_inj (b := 7) (by omega) (by decide))
      have q6 : (nI (sy (k - 1 - f)) = 6) ↔ (sy (k - 1 - f) = 6) := Eq.to_iff (nI_inj (b := 6) (by omega) (by decide))
      rw [e1, if_neg (nI_pos (show k - 1 - f < 2 ^ 31 by omega)), gd_t (ix_nI (show k - 1 - f < 12 by omega) (by decide)), lt_, nI_clamp (show k - 1 - f < 2 ^ 31 by omega), h36 _ (by omega)]
      have hl2 := pend_len hne
      rw [show k - 1 - f + 1 = k - f from by omega, ← hlen] at hl2
      have h0 : 0 < (pend sy (k - 1 - f)).length := List.length_pos_iff.mpr hne
      unfold nxd at hl2
      rw [vs] at ih
      unfold vstep at ih
      unfold j_X0_valueFor_40 j_X0_valueFor_79
      by_cases a : sy (k - 1 - f) = 7
      · rw [if_pos a] at hl2 ih
        rw [if_pos (q7.mpr a)]
        cases hv : vs x sy k f with
        | nil => rw [hv] at hl2; simp at hl2
        | cons u r =>
          cases r with
          | nil => rw [hv] at hl2; simp only [List.length_cons, List.length_nil] at hl2; omega
          | cons u2 r2 =>
            rw [hv] at ih hlen
            simp only at ih
            have hl13 : (u :: u2 :: r2).length ≤ 13 := by rw [hlen]; omega
            have hl13' : r2.length ≤ 13 := by simp at hl13; omega
            by_cases z : (u && u2) = true
            · rw [z] at ih
              rw [if_pos ((i_and3 hl13).mpr z), i_shr hl13, show (0 : Int32) = b01 false from rfl, i_push hl13', lt_, lt_, e2]
              exact ih
            · have z : (u && u2) = false := by simpa using z
              rw [z] at ih
              rw [if_neg (fun q => by rw [(i_and3 hl13).mp q] at z; cases z), i_shr hl13, show ((nI (enc r2) <<< ((1 : Int32) &&& 31)) ||| 1) = (nI (enc r2) <<< ((1 : Int32) &&& 31)) ||| b01 true from rfl, i_push hl13', lt_, lt_, e2]
              exact ih
      · rw [if_neg a] at hl2 ih
        rw [if_neg (fun q => a (q7.mp q))]
        by_cases b : sy (k - 1 - f) = 6
        · rw [if_pos b] at hl2 ih
          rw [if_pos (q6.mpr b)]
          cases hv : vs x sy k f with
          | nil => rw [hv] at hl2; simp only [List.length_cons, List.length_nil] at hl2; omega
          | cons u r =>
            rw [hv] at ih hlen
            simp only at ih
            rw [i_not (by rw [hlen]; omega), lt_, lt_, e2]
            exact ih
        · rw [if_neg b] at hl2 ih
          rw [if_neg (fun q => b (q6.mp q)), pbt_b, i_push (by rw [hlen]; omega), lt_, lt_, e2]
          exact ih
theorem c_valueFor {c : Nat} {q : Cel} (ho : okCel q) {S : St} (hC : CL c q.2.2.1 q.2.2.2 S) (x : Int32) : f_X0_valueFor c x S = some (b01 (cgv x q), S) := by
  obtain ⟨o1, o2, o3, o4, o5⟩ := ho
  unfold f_X0_valueFor
  rw [lt_, hC.1]
  exact c_vfl o2 o3 o4 hC.2.2.2 x 5000 0 (by omega) (by omega)
/-- each value lies where its symbol is -/
theorem vs_at {x : Int32} {sy : Nat → Nat} {k : Nat} (hsy : ∀ i, i < k → sy i ≤ 7 ∧ pend sy i ≠ []) (hke : pend sy k = []) : ∀ f, f ≤ k → ∀ (n : Nat) (q : Option (Nat × Bool)), (pend sy (k - f))[n]? = some q → ∀ j r, j < k → pend sy j = q :: r → (vs x sy k f)[n]? = some ((vs x sy k (k - j)).headD false)
  | 0, _, n, q, h, _, _, _, _ => by rw [show k - 0 = k from rfl, hke] at h; simp at h
  | f + 1, hf, n, q, h, j, r, hj, hp => by
    have ih := vs_at (x := x) hsy hke f (by omega)
    have hlen := vs_len (x := x) hsy hke (f + 1) hf
    have hlen0 := vs_len (x := x) hsy hke f (by omega)
    obtain ⟨h7, hne⟩ := hsy (k - 1 - f) (by omega)
    rw [show k - (f + 1) = k - 1 - f from by omega] at h hlen
    cases hpe : pend sy (k - 1 - f) with
    | nil => exact absurd hpe hne
    | cons e rr =>
      rw [hpe] at h hlen
      cases n with
      | zero =>
        have hq : q = e := by simpa using h.symm
        subst hq
        have hjk : j = k - 1 - f := by
          rcases Nat.lt_trichotomy j (k - 1 - f) with z | z | z
          · have := (pend_ok sy (k - 1 - f)).2.2 j z _ _ hp
            rw [hpe] at this
            exact absurd List.mem_cons_self this
          · exact z
          · have := (pend_ok sy j).2.2 (k - 1 - f) z _ _ hpe
            rw [hp] at this
            exact absurd List.mem_cons_self this
        subst hjk
        rw [show k - (k - 1 - f) = f + 1 from by omega]
        cases hv : vs x sy k (f + 1) with
        | nil => rw [hv] at hlen; simp at hlen
        | cons a l => rfl
      | succ n =>
        have hr : rr[n]? = some q := by simpa using h
        have hpn : pend sy (k - f) = if sy (k - 1 - f) = 7 then some (k - 1 - f, false) :: some (k - 1 - f, true) :: rr else if sy (k - 1 - f) = 6 then some (k - 1 - f, false) :: rr else rr := by
          rw [show k - f = k - 1 - f + 1 from by omega, pend, hpe]
        rw [vs]
        unfold vstep
        by_cases a : sy (k - 1 - f) = 7
        · rw [if_pos a] at hpn ⊢
          have := ih (n + 2) q (by rw [hpn]; simpa using hr) j r hj hp
          cases hv : vs x sy k f with
          | nil => rw [hv] at this; simp at this
          | cons u l =>
            cases l with
            | nil => rw [hv] at this; simp at this
            | cons u2 l2 =>
              rw [hv] at this
              simpa using this
        · rw [if_neg a] at hpn ⊢
          by_cases b : sy (k - 1 - f) = 6
          · rw [if_pos b] at hpn ⊢
            have := ih (n + 1) q (by rw [hpn]; simpa using hr) j r hj hp
            cases hv : vs x sy k f with
            | nil => rw [hv] at this; simp at this
            | cons u l =>
              rw [hv] at this
              simpa using this
          · rw [if_neg b] at hpn ⊢
            have := ih n q (by rw [hpn]; exact hr) j r hj hp
            simpa using this
theorem m_cgl {c k : Nat} (hc : c < 20) {sy : Nat → Nat} (hk : k ≤ 12) (hk1 : 1 ≤ k) (hsy : ∀ i, i < k → sy i ≤ 7 ∧ pend sy i ≠ []) (hke : pend sy k = []) (x : Int32) : ∀ (F f : Nat) (T : St), f ≤ k → k - f < F → ML c k sy T → (∀ j, k - f ≤ j → j < k → T 39 0 j = b01 ((vs x sy k (k - j)).headD false)) → ∃ T', l_X9_cellGives_15 F T x (nI (12 * c)) (nI (k - f) - 1) = some (b01 ((vs x sy k k).headD false), T') ∧ Same [(39, 0)] T T' := by
  intro F
  induction F with
  | zero => intro f T _ h; exact absurd h (by omega)
  | succ F ih =>
    intro f T hf hF hM hg
    rw [show l_X9_cellGives_15 (F + 1) = b_X9_cellGives_15 (l_X9_cellGives_15 F) from rfl]
    unfold b_X9_cellGives_15
    by_cases e : f = k
    · subst e
      rw [if_pos (show nI (f - f) - 1 < 0 from by rw [Nat.sub_self]; decide), gd_t (show ix 0 12 = true from by decide), lt_, show (0 : Int32).toNatClampNeg = 0 from by decide, hg 0 (by omega) (by omega)]
      exact ⟨T, rfl, Same.rf⟩
    · generalize hi : k - 1 - f = i
      have e1 : nI (k - f) - 1 = nI i := by rw [nI_s1 (by omega)]; congr 1; omega
      have hik : i < k := by omega
      obtain ⟨h7, hne⟩ := hsy i hik
      obtain ⟨m1, m2, m3, m4⟩ := id hM
      obtain ⟨m5, m6⟩ := m3 i hik
      have hb : nI (12 * c) + nI i = nI (12 * c + i) := nI_add _ _
      have hbx : ix (nI (12 * c + i)) 240 = true := ix_nI (by omega) (by decide)
      have hbc : (nI (12 * c + i)).toNatClampNeg = 12 * c + i := nI_clamp (by omega)
      have e2 : nI i + (-1) = nI (k - (f + 1)) - 1 := by
        rw [show k - (f + 1) = i from by omega, Int32.sub_eq_add_neg]
      have hvs : vs x sy k (f + 1) = vstep x (sy i) (vs x sy k f) := by rw [vs, hi]
      -- the value is laid
      have fin : ∀ b : Bool, b = (vs x sy k (f + 1)).headD false → ∃ T', j_X9_cellGives_115 (l_X9_cellGives_15 F) T x (nI (12 * c)) (nI i) (nI i) (b01 b) = some (b01 ((vs x sy k k).headD false), T') ∧ Same [(39, 0)] T T' := by
        intro b hb'
        unfold j_X9_cellGives_115
        rw [gd_t (ix_nI (show i < 12 by omega) (by decide)), lt_, lt_, nI_clamp (show i < 2 ^ 31 by omega), e2]
        have s1 : Same [(39, 0)] T (put T 39 0 i (b01 b)) := Same.rf.put (by simp)
        obtain ⟨T', a1, a2⟩ := ih (f + 1) (put T 39 0 i (b01 b)) (by omega) (by omega) (hM.cg (s1.keep (by decide))) (fun j h1 h2 => by
          rw [put_jj]
          by_cases z : j = i
          · rw [if_pos z, z, show k - i = f + 1 from by omega, hb']
          · rw [if_neg z]; exact hg j (by omega) h2)
        exact ⟨T', a1, s1.tr a2⟩
      rw [e1, if_neg (nI_pos (show i < 2 ^ 31 by omega)), hb, gd_t hbx, lt_, hbc, m5]
      cases hpe : pend sy i with
      | nil => exact absurd hpe hne
      | cons e0 rr =>
        have hat := vs_at (x := x) hsy hke f hf
        by_cases h6 : sy i < 6
        · have n7 : ¬ sy i = 7 := by omega
          have n6 : ¬ sy i = 6 := by omega
          rw [show sgn (sy i) = 3 from by unfold sgn; rw [if_neg n7, if_neg n6], if_pos rfl, gd_t hbx, lt_, m6, show ltr (sy i) = nI (sy i) from if_pos h6, pbt_b]
          exact fin _ (by rw [hvs]; unfold vstep; rw [if_neg n7, if_neg n6]; rfl)
        · by_cases a : sy i = 7
          · have hpn : pend sy (k - f) = some (i, false) :: some (i, true) :: rr := by rw [show k - f = i + 1 from by omega, pend, hpe]; simp only [if_pos a]
            obtain ⟨l, r1, l1, l2, l3⟩ := pend_pop hke (k - (i + 1)) (i + 1) (by omega) (show some (i, false) ∈ pend sy (i + 1) by rw [show i + 1 = k - f from by omega, hpn]; simp)
            obtain ⟨o, r2, o1, o2, o3⟩ := pend_pop hke (k - (i + 1)) (i + 1) (by omega) (show some (i, true) ∈ pend sy (i + 1) by rw [show i + 1 = k - f from by omega, hpn]; simp)
            have dl : T 24 0 (12 * c + i) = nI l := m4 l l2 i false r1 l3
            have dr : T 25 0 (12 * c + i) = nI o := m4 o o2 i true r2 o3
            have v0 := hat 0 _ (by rw [hpn]; rfl) l r1 l2 l3
            have v1 := hat 1 _ (by rw [hpn]; rfl) o r2 o2 o3
            rw [show sgn (sy i) = 2 from by unfold sgn; rw [if_pos a], if_neg (show ¬ (2 : Int32) = 3 from by decide), if_neg (show ¬ (2 : Int32) = 1 from by decide), gd_t hbx, lt_, dl, gd_t (ix_nI (show l < 12 by omega) (by decide)), lt_, nI_clamp (show l < 2 ^ 31 by omega), hg l (by omega) l2, gd_t hbx, lt_, dr, gd_t (ix_nI (show o < 12 by omega) (by decide)), lt_, nI_clamp (show o < 2 ^ 31 by omega), hg o (by omega) o2]
            generalize (vs x sy k (k - l)).headD false = A at *
            generalize (vs x sy k (k - o)).headD false = B at *
            rw [show (1 : Int32) - (b01 A &&& b01 B) = b01 (!(A && B)) from by cases A <;> cases B <;> decide]
            refine fin _ ?_
            rw [hvs]
            unfold vstep
            rw [if_pos a]
            cases hv : vs x sy k f with
            | nil => rw [hv] at v0; simp at v0
            | cons u L =>
              cases L with
              | nil => rw [hv] at v1; simp at v1
              | cons u2 L2 =>
                rw [hv] at v0 v1
                simp at v0 v1
                rw [v0, v1]
                rfl
          · have s6 : sy i = 6 := by omega
            have hpn : pend sy (k - f) = some (i, false) :: rr := by rw [show k - f = i + 1 from by omega, pend, hpe]; simp only [if_neg a, if_pos s6]
            obtain ⟨l, r1, l1, l2, l3⟩ := pend_pop hke (k - (i + 1)) (i + 1) (by omega) (show some (i, false) ∈ pend sy (i + 1) by rw [show i + 1 = k - f from by omega, hpn]; simp)
            have dl : T 24 0 (12 * c + i) = nI l := m4 l l2 i false r1 l3
            have v0 := hat 0 _ (by rw [hpn]; rfl) l r1 l2 l3
            rw [show sgn (sy i) = 1 from by unfold sgn; rw [if_neg a, if_pos s6], if_neg (show ¬ (1 : Int32) = 3 from by decide), if_pos rfl, gd_t hbx, lt_, dl, gd_t (ix_nI (show l < 12 by omega) (by decide)), lt_, nI_clamp (show l < 2 ^ 31 by omega), hg l (by omega) l2]
            generalize (vs x sy k (k - l)).headD false = A at *
            rw [show (1 : Int32) - b01 A = b01 (!A) from by cases A <;> decide]
            refine fin _ ?_
            rw [hvs]
            unfold vstep
            rw [if_neg a, if_pos s6]
            cases hv : vs x sy k f with
            | nil => rw [hv] at v0; simp at v0
            | cons u L =>
              rw [hv] at v0
              simp at v0
              rw [v0]
              rfl
theorem m_cellGives {c : Nat} (hc : c < 20) {q : Cel} (ho : okCel q) {T : St} (hM : ML c q.2.2.1 q.2.2.2 T) (h19 : T 19 0 c = nI q.2.2.1) (x : Int32) : ∃ T', f_X9_cellGives (nI c) x T = some (b01 (cgv x q), T') ∧ Same [(39, 0)] T T' := by
  obtain ⟨o1, o2, o3, o4, o5⟩ := ho
  unfold f_X9_cellGives
  rw [lt_, gd_t (ix_nI hc (by decide)), lt_, nI_clamp (show c < 2 ^ 31 by omega), h19, lt_, show (12 : Int32) * nI c = nI (12 * c) from pk_mul 12 c]
  exact m_cgl hc o2 o1 o3 o4 x 5000 0 T (by omega) (by omega) hM (fun j h1 h2 => absurd h1 (by omega))
