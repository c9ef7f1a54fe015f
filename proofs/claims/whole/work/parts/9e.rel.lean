/-! THE RELATION of the two states, and that each call keeps it with equal answers -/
def OkX (N : Nd) (n m : Nat) (ou : Nat → Nat) (c : Nat) (lib : Nat → Cel) (L : List Nat) (ln : Nat) : Prop := WfN N n m ou ∧ HV ou L n m c ∧ WfL c lib ∧ ln ≤ 60
def BC (N : Nd) (n m : Nat) (ou : Nat → Nat) (c : Nat) (lib : Nat → Cel) (L : List Nat) (ln : Nat) (tp : Nat → Int32) (fl : Int32) (S : St) : Prop := PnC N n m ou S ∧ PhC L S ∧ PlC c lib (thL L) S ∧ TC ln tp S ∧ S 3 0 3 = fl
def BM (N : Nd) (n m : Nat) (ou : Nat → Nat) (c : Nat) (lib : Nat → Cel) (L : List Nat) (ln : Nat) (tp : Nat → Int32) (fl : Int32) (T : St) : Prop := PnM N n m ou T ∧ PhM L T ∧ PlM c lib (thL L) T ∧ TM ln tp T ∧ T 0 0 21 = fl
def CC (N : Nd) (n m : Nat) (ou : Nat → Nat) (c : Nat) (lib : Nat → Cel) (L : List Nat) (cv : Option Int32) (S : St) : Prop := CvC (bld N n).1 m (vos N n ou) c lib (thL L) cv S
def CM (N : Nd) (n m : Nat) (ou : Nat → Nat) (c : Nat) (lib : Nat → Cel) (L : List Nat) (cv : Option Int32) (T : St) : Prop := CvM (bld N n).1 m (vos N n ou) c lib (thL L) cv T
def Rel (S T : St) : Prop := ∃ N n m ou c lib L ln tp fl cv, OkX N n m ou c lib L ln ∧ BC N n m ou c lib L ln tp fl S ∧ CC N n m ou c lib L cv S ∧ BM N n m ou c lib L ln tp fl T ∧ CM N n m ou c lib L cv T
section
variable {N : Nd} {n m : Nat} {ou : Nat → Nat} {c : Nat} {lib : Nat → Cel} {L : List Nat} {ln : Nat} {tp : Nat → Int32} {fl : Int32} {cv : Option Int32} {S S' T T' : St}
theorem thL_3 {x : Nat} (hx : x < 3) (L : List Nat) : thL (x :: L) = thL L := by
  funext d
  unfold thL
  congr 1
  rw [List.contains_cons]
  rw [show (d + 3 == x) = false from by simp; omega]
  rfl
theorem CC_none (h : S 0 0 8 = 0) : CC N n m ou c lib L none S := ⟨h, fun how hh => by cases hh⟩
theorem CM_none (h : T 0 0 10 = 0) : CM N n m ou c lib L none T := ⟨h, fun how hh => by cases hh⟩
theorem BC.ev (ho : OkX N n m ou c lib L ln) (h : BC N n m ou c lib L ln tp fl S) : EvC (bld N n).1 m (vos N n ou) c lib (thL L) S := by
  obtain ⟨w1, w2, w3⟩ := bld_ok ho.1.2.2.1 (k := n) (Nat.le_refl n)
  have hn := ho.1.1
  exact ⟨by omega, w1, h.1.1.2.2.2.2.2, h.1.2.1, ho.2.2.1, h.2.2.1⟩
theorem BM.ev (ho : OkX N n m ou c lib L ln) (h : BM N n m ou c lib L ln tp fl T) : EvM (bld N n).1 m (vos N n ou) c lib (thL L) T := by
  obtain ⟨w1, w2, w3⟩ := bld_ok ho.1.2.2.1 (k := n) (Nat.le_refl n)
  have hn := ho.1.1
  exact ⟨by omega, w1, h.1.2.2.2.1, h.1.2.2.2.2.2, ho.2.2.1, h.2.2.1⟩
theorem BC.ov (ho : OkX N n m ou c lib L ln) (h : BC N n m ou c lib L ln tp fl S) : OV m (bld N n).1.1 (vos N n ou) S := by
  obtain ⟨⟨hn, hm, hN, hou⟩, -⟩ := ho
  obtain ⟨⟨a1, a2, a3, a4, a5, a6⟩, -⟩ := h.1
  obtain ⟨w1, w2, w3⟩ := bld_ok hN (k := n) (Nat.le_refl n)
  exact ⟨a2, hm, by omega, fun o ho => ⟨w3 _ (hou o ho), ou o, by have := hou o ho; omega, a5 o ho, by rw [(a4 _ (hou o ho)).2.2.2]; unfold vos; rw [bld_vo N (hou o ho)]⟩⟩
theorem BM.ov (ho : OkX N n m ou c lib L ln) (h : BM N n m ou c lib L ln tp fl T) : OVM m (bld N n).1.1 (vos N n ou) T := by
  obtain ⟨⟨hn, hm, hN, hou⟩, -⟩ := ho
  obtain ⟨a1, a2, a3, a4, a5, a6⟩ := h.1
  obtain ⟨w1, w2, w3⟩ := bld_ok hN (k := n) (Nat.le_refl n)
  exact ⟨a2, hm, by omega, fun o ho => ⟨w3 _ (hou o ho), ou o, by have := hou o ho; omega, a3 o ho, a5 _ (hou o ho)⟩⟩
def ksB : List Nat := [1, 2, 3, 4, 7, 8, 9, 10, 11, 12, 13, 14, 15, 16, 17, 18, 20, 21, 22, 23, 35, 36]
theorem BC.same {ex : List (Nat × Nat)} (h : BC N n m ou c lib L ln tp fl S) (s : Same ex S S') (hx : ∀ q ∈ ex, q.1 ∉ ksB) : BC N n m ou c lib L ln tp fl S' := by
  have r : ∀ k i, k ∈ ksB → S' k i = S k i := fun k i hk => s k i (fun hm => hx _ hm hk)
  obtain ⟨h1, h2, h3, h4, h5⟩ := h
  refine ⟨h1.keep (fun q hq => r q.1 q.2 ?_), h2.keep (fun q hq => r q.1 q.2 ?_), h3.same (r 4 0 (by decide)) (fun d _ => ⟨r 8 d (by decide), r 36 d (by decide)⟩), ⟨?_, ?_⟩, ?_⟩
  · have : ∀ q ∈ rowsN, q.1 ∈ ksB := by decide
    exact this q hq
  · have : ∀ q ∈ [(7, 0), (35, 0)], q.1 ∈ ksB := by decide
    exact this q hq
  · rw [r 3 0 (by decide)]; exact h4.1
  · rw [r 23 0 (by decide)]; exact h4.2
  · rw [r 3 0 (by decide)]; exact h5
theorem PlM.kp {th : Nat → Bool} (h : PlM c lib th T) (hs : ∀ d, d < c → (lib d).2.2.1 ≤ 12) (h22 : T' 0 0 22 = T 0 0 22) (r : ∀ k, k = 16 ∨ k = 17 ∨ k = 18 ∨ k = 19 ∨ k = 20 ∨ k = 21 ∨ k = 22 ∨ k = 23 ∨ k = 24 ∨ k = 25 → T' k 0 = T k 0) : PlM c lib th T' := h.same h22 (fun d _ => ⟨⟨fun _ _ => ⟨rfl, rfl⟩, fun _ _ => ⟨rfl, rfl, rfl, rfl⟩⟩, by rw [r 20 (by simp)], by rw [r 21 (by simp)], fun j _ _ => ⟨by rw [r 22 (by simp)], by rw [r 23 (by simp)], by rw [r 24 (by simp)], by rw [r 25 (by simp)]⟩, by rw [r 17 (by simp)], by rw [r 18 (by simp)], by rw [r 19 (by simp)], by rw [r 16 (by simp)]⟩) hs
theorem WfL.sz (h : WfL c lib) : ∀ d, d < c → (lib d).2.2.1 ≤ 12 := fun d hd => (h.2 d hd).2.1
theorem BM.fr (ho : OkX N n m ou c lib L ln) (h : BM N n m ou c lib L ln tp fl T) (f : FrW T T') : BM N n m ou c lib L ln tp fl T' := by
  obtain ⟨h1, h2, h3, h4, h5⟩ := h
  have z : ∀ j, j ≠ 10 → j ≠ 40 → j ≠ 46 → j ≠ 50 → T' 0 0 j = T 0 0 j := f.2
  refine ⟨h1.keep (f.1.keep (by decide)) (fun j hj => ?_), h2.keep (f.1.keep (by decide)) (fun j hj => ?_), h3.kp ho.2.2.1.sz (z 22 (by decide) (by decide) (by decide) (by decide)) (fun k hk => f.1 k 0 (by rcases hk with rfl | rfl | rfl | rfl | rfl | rfl | rfl | rfl | rfl | rfl <;> decide)), ⟨?_, ?_⟩, ?_⟩
  · have : j = 0 ∨ j = 5 ∨ j = 11 := by simpa using hj
    exact z j (by omega) (by omega) (by omega) (by omega)
  · have : j = 7 := by simpa using hj
    exact z j (by omega) (by omega) (by omega) (by omega)
  · rw [z 20 (by decide) (by decide) (by decide) (by decide)]; exact h4.1
  · rw [f.1 15 0 (by decide)]; exact h4.2
  · rw [z 21 (by decide) (by decide) (by decide) (by decide)]; exact h5
theorem FrW.of {ex : List (Nat × Nat)} (s : Same ex T T') (h : ∀ q ∈ ex, q ∈ exW ∧ q ≠ (0, 0)) : FrW T T' := ⟨s.mono (fun q hq => (h q hq).1), fun j _ _ _ _ => by rw [s 0 0 (fun hm => (h _ hm).2 rfl)]⟩
theorem CC.ok (h : CC N n m ou c lib L cv S) : ∀ how, cv = some how → (Qc (bld N n).1 m (vos N n ou) c lib (thL L) how).ok := fun how hh => (h.2 how hh).1
/-- a call that looks alone: the class's rows that may change, the reference's -/
theorem Rel_look {exc exm : List (Nat × Nat)} (ho : OkX N n m ou c lib L ln) (hb : BC N n m ou c lib L ln tp fl S) (hc : CC N n m ou c lib L cv S) (hbm : BM N n m ou c lib L ln tp fl T) (hcm : CM N n m ou c lib L cv T) (s : Same exc S S') (sm : Same exm T T') (h1 : ∀ q ∈ exc, q.1 ∉ ksB ∧ q ∉ [(0, 0), (6, 0), (27, 0), (28, 0), (29, 0), (30, 0), (31, 0), (32, 0)]) (h2 : ∀ q ∈ exm, q ∈ [(28, 0), (29, 0), (38, 0), (39, 0)]) : Rel S' T' := by
  have w : ∀ q ∈ [(28, 0), (29, 0), (38, 0), (39, 0)], q ∈ exW ∧ q ≠ (0, 0) := by decide
  have z : T' 0 0 = T 0 0 := sm 0 0 (fun hm => by
    have := h2 _ hm
    simp at this)
  refine ⟨N, n, m, ou, c, lib, L, ln, tp, fl, cv, ho, hb.same s (fun q hq => (h1 q hq).1), CvC.same hc (s.keep (fun q hq hm => (h1 q hm).2 hq)), hbm.fr ho (FrW.of sm (fun q hq => w q (h2 q hq))), CvM.fr hcm (sm.keep (fun q hq hm => ?_)) (fun j _ => by rw [z])⟩
  have a := h2 q hm
  have : ∀ q ∈ [(30, 0), (31, 0), (32, 0), (33, 0), (34, 0), (35, 0), (36, 0)], q ∉ [(28, 0), (29, 0), (38, 0), (39, 0)] := by decide
  exact this q hq a
theorem Rel_same (ho : OkX N n m ou c lib L ln) (hb : BC N n m ou c lib L ln tp fl S) (hc : CC N n m ou c lib L cv S) (hbm : BM N n m ou c lib L ln tp fl T) (hcm : CM N n m ou c lib L cv T) : Rel S T := ⟨N, n, m, ou, c, lib, L, ln, tp, fl, cv, ho, hb, hc, hbm, hcm⟩
/-- a change of the net -/
theorem Rel_net {N' : Nd} {n' m' : Nat} {ou' : Nat → Nat} {L' : List Nat} (ho : OkX N n m ou c lib L ln) (hb : BC N n m ou c lib L ln tp fl S) (hbm : BM N n m ou c lib L ln tp fl T) (ho' : OkX N' n' m' ou' c lib L' ln) (hL : thL L' = thL L) (hP : PnC N' n' m' ou' S') (hh : PhC L' S') (h8 : S' 0 0 8 = 0) (s : Same exN S S') (hPm : PnM N' n' m' ou' T') (hhm : PhM L' T') (h10 : T' 0 0 10 = 0) (sm : Same [(0, 0), (1, 0), (2, 0), (3, 0), (4, 0), (5, 0), (6, 0), (7, 0), (8, 0), (9, 0), (10, 0), (11, 0), (12, 0), (13, 0), (14, 0)] T T') (z : T' 0 0 20 = T 0 0 20 ∧ T' 0 0 21 = T 0 0 21 ∧ T' 0 0 22 = T 0 0 22) : Rel S' T' := by
  obtain ⟨-, -, h3, h4, h5⟩ := hb
  obtain ⟨-, -, m3, m4, m5⟩ := hbm
  refine ⟨N', n', m', ou', c, lib, L', ln, tp, fl, none, ho', ⟨hP, hh, ?_, ⟨?_, ?_⟩, ?_⟩, CC_none h8, ⟨hPm, hhm, ?_, ⟨?_, ?_⟩, ?_⟩, CM_none h10⟩
  · rw [hL]
    exact h3.same (s 4 0 (by decide)) (fun d _ => ⟨s 8 d (by simp [exN]), s 36 d (by simp [exN])⟩)
  · rw [s 3 0 (by decide)]; exact h4.1
  · rw [s 23 0 (by decide)]; exact h4.2
  · rw [s 3 0 (by decide)]; exact h5
  · rw [hL]
    exact m3.kp ho.2.2.1.sz z.2.2 (fun k hk => sm k 0 (by rcases hk with rfl | rfl | rfl | rfl | rfl | rfl | rfl | rfl | rfl | rfl <;> decide))
  · rw [z.1]; exact m4.1
  · rw [sm 15 0 (by decide)]; exact m4.2
  · rw [z.2.1]; exact m5
theorem OkX.len (ho : OkX N n m ou c lib L ln) : L.length ≤ n + m + c + c := HV_88 ho.2.1
end
