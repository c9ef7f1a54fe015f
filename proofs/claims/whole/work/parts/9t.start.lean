/-! The law from its entry -/
theorem lastC2 {α : Type} {y : α} {w : List α} : [w.length].map (fun i => (w ++ [y])[i]?) = [y].map some := by
  simp
theorem lastR2 {α : Type} {y : α} {w : List α} : (List.range w.length).map (fun i => (w ++ [y])[i]?) = w.map some := by
  apply List.ext_getElem?
  intro j
  rw [List.getElem?_map, List.getElem?_map]
  by_cases hj : j < w.length
  · rw [List.getElem?_range hj]
    have h2 : (w ++ [y])[j]? = w[j]? := List.getElem?_append_left hj
    obtain ⟨z, hz⟩ : ∃ z, w[j]? = some z := ⟨_, List.getElem?_eq_getElem hj⟩
    rw [Option.map_some, h2, hz, Option.map_some]
  · rw [List.getElem?_eq_none (by simp; omega), List.getElem?_eq_none (by omega)]
    rfl
theorem ap_l {α : Type} {a b : List α} {k : Nat} {q : α} (h : a[k]? = some q) : (a ++ b)[k]? = some q := by
  rw [List.getElem?_append_left (List.getElem?_eq_some_iff.mp h).1]
  exact h
theorem ap_r {α : Type} {a b : List α} {k : Nat} {q : α} (h : b[k]? = some q) : (a ++ b)[a.length + k]? = some q := by
  rw [List.getElem?_append_right (by omega), Nat.add_sub_cancel_left]
  exact h
def inL (w : va_W) : Nat → Prop := fun q => ∃ (k : Nat) (e : va_E), w[k]? = some (q, e)
theorem inL_D {A : Nat → Prop} {w : va_W} (h : va_D A w) : va_D (inL w) w := ⟨h.1, fun k q hk => ⟨k, q.2, hk⟩⟩
theorem D_l {A : Nat → Prop} {a b : va_W} (h : va_D A (a ++ b)) : va_D A a := ⟨fun i j p q hi hj e => h.1 i j p q (ap_l hi) (ap_l hj) e, fun k q hk => h.2 k q (ap_l hk)⟩
theorem D_r {A : Nat → Prop} {a b : va_W} (h : va_D A (a ++ b)) : va_D A b := ⟨fun i j p q hi hj e => by
  have := h.1 (a.length + i) (a.length + j) p q (ap_r hi) (ap_r hj) e
  omega, fun k q hk => h.2 _ q (ap_r hk)⟩
theorem D_dis {A : Nat → Prop} {a b : va_W} (h : va_D A (a ++ b)) : ∀ q, inL a q → ¬ inL b q := by
  rintro q ⟨k, e, hk⟩ ⟨j, e', hj⟩
  have h1 := h.1 k (a.length + j) (q, e) (q, e') (ap_l hk) (ap_r hj) rfl
  have h2 : k < a.length := (List.getElem?_eq_some_iff.mp hk).1
  omega
theorem D_A {A : Nat → Prop} {w : va_W} (h : va_D A w) : ∀ q, inL w q → A q := by
  rintro q ⟨k, e, hk⟩
  exact h.2 k _ hk
theorem P_l {D : va_G} {cl : List vw_C} {a b : va_W} {H : Heap} (h : va_P D cl (a ++ b) H) : va_P D cl a H := fun k q hk => h k q (ap_l hk)
theorem P_r {D : va_G} {cl : List vw_C} {a b : va_W} {H : Heap} (h : va_P D cl (a ++ b) H) : va_P D cl b H := fun k q hk => h _ q (ap_r hk)
set_option maxHeartbeats 4000000 in
set_option maxRecDepth 100000 in
/-- the classes and the array classes of the start -/
theorem law_K {s : State} {b : Nat} (hts : ∀ w ∈ lw_tbl, w.before #[Value.ref b] s = true) : ∃ (D : va_G) (cs : CS), va_K D vwCl (tyd cs) s := by
  obtain ⟨c0, i0, k0⟩ := u_known (C := RX0) (T := TX0) (N := 7) (n := 7) hts inX0 (hts _ ins_0)
  obtain ⟨c1, i1, k1⟩ := u_known (C := RX1) (T := TX1) (N := 14) (n := 14) hts inX1 (hts _ ins_1)
  obtain ⟨c2, i2, k2⟩ := u_known (C := RX2) (T := TX2) (N := 2) (n := 2) hts inX2 (hts _ ins_2)
  obtain ⟨c3, i3, k3⟩ := u_known (C := RX3) (T := TX3) (N := 2) (n := 2) hts inX3 (hts _ ins_3)
  obtain ⟨c4, i4, k4⟩ := u_known (C := RX4) (T := TX4) (N := 6) (n := 6) hts inX4 (hts _ ins_4)
  obtain ⟨c5, i5, k5⟩ := u_known (C := RX5) (T := TX5) (N := 11) (n := 11) hts inX5 (hts _ ins_5)
  obtain ⟨c6, i6, k6⟩ := u_known (C := RX6) (T := TX6) (N := 4) (n := 4) hts inX6 (hts _ ins_6)
  obtain ⟨c7, i7, k7⟩ := u_known (C := RX7) (T := TX7) (N := 9) (n := 9) hts inX7 (hts _ ins_7)
  obtain ⟨c8, i8, k8⟩ := u_known (C := RX8) (T := TX8) (N := 9) (n := 9) hts inX8 (hts _ ins_8)
  obtain ⟨c9, i9, k9⟩ := u_known (C := RX9) (T := TX9) (N := 53) (n := 53) hts inX9 (hts _ ins_9)
  obtain ⟨cI, kI, pI, f1, f2, f3⟩ := Cond.arrayClass_spec (hts _ ac_int)
  obtain ⟨cB, kB, pB, g1, g2, g3⟩ := Cond.arrayClass_spec (hts _ ac_boolean)
  obtain ⟨pC, cC, kC, e1, -, e3, e4, e5⟩ := Cond.arrayOver_spec (hts _ nw_ao)
  refine ⟨(fun k => match k with | 0 => c0 | 1 => c1 | 2 => c2 | 3 => c3 | 4 => c4 | 5 => c5 | 6 => c6 | 7 => c7 | 8 => c8 | _ => c9, fun k => match k with | 0 => i0 | 1 => i1 | 2 => i2 | 3 => i3 | 4 => i4 | 5 => i5 | 6 => i6 | 7 => i7 | 8 => i8 | _ => i9), (cI, cB, cC), fun k q hq => ?_, fun k q hq => ?_⟩
  · match k, hq with
    | 0, hq => cases hq; exact k0
    | 1, hq => cases hq; exact k1
    | 2, hq => cases hq; exact k2
    | 3, hq => cases hq; exact k3
    | 4, hq => cases hq; exact k4
    | 5, hq => cases hq; exact k5
    | 6, hq => cases hq; exact k6
    | 7, hq => cases hq; exact k7
    | 8, hq => cases hq; exact k8
    | 9, hq => cases hq; exact k9
    | k + 10, hq => simp at hq
  · match k, hq with
    | 0, hq => cases hq; exact ⟨fun n z => ⟨fun k h => (by cases h), kI, f2, pI, f3⟩, f1⟩
    | 1, hq => cases hq; exact ⟨fun n z => ⟨fun k h => (by cases h), kB, g2, pB, g3⟩, g1⟩
    | 2, hq => cases hq; exact ⟨fun n z => ⟨fun k h => (by cases h), kC, e3, pC, e4⟩, kC, pC, e3, e4, e1, e5⟩
    | k + 3, hq => simp at hq
theorem inw_cl8 : Cond.classLink RL 7 RX8 ∈ wsL_law := by decide +kernel
theorem inw_in8 : Cond.instantiable RX8 9 ∈ wsL_law := by decide +kernel
theorem inw_it8 : Cond.initialized RX8 ∈ wsL_law := by decide +kernel
theorem inw_ml8 : Cond.methodLink RL 9 yX8_init ∈ wsL_law := by decide +kernel
theorem inw_im8 : Cond.instanceMethod yX8_init ∈ wsL_law := by decide +kernel
theorem inw_cl9 : Cond.classLink RL 10 RX9 ∈ wsL_law := by decide +kernel
theorem inw_in9 : Cond.instantiable RX9 53 ∈ wsL_law := by decide +kernel
theorem inw_it9 : Cond.initialized RX9 ∈ wsL_law := by decide +kernel
theorem inw_ml9 : Cond.methodLink RL 12 yX9_init ∈ wsL_law := by decide +kernel
theorem inw_im9 : Cond.instanceMethod yX9_init ∈ wsL_law := by decide +kernel
set_option maxRecDepth 100000 in
theorem df9 : ∀ j, j < 53 → defaultValue (tyX9 j) = vp_V [.int 0, .null, .null, .null, .null, .int 0, .null, .int 0, .null, .null, .int 0, .int 0, .null, .null, .null, .null, .null, .null, .null, .null, .int 0, .int 0, .int 0, .null, .null, .null, .null, .null, .null, .null, .null, .null, .null, .int 0, .int 0, .int 0, .null, .null, .null, .null, .int 0, .null, .null, .null, .null, .null, .int 0, .null, .null, .null, .int 0, .null, .null] j := fun j hj => by rcases (show j = 0 ∨ j = 1 ∨ j = 2 ∨ j = 3 ∨ j = 4 ∨ j = 5 ∨ j = 6 ∨ j = 7 ∨ j = 8 ∨ j = 9 ∨ j = 10 ∨ j = 11 ∨ j = 12 ∨ j = 13 ∨ j = 14 ∨ j = 15 ∨ j = 16 ∨ j = 17 ∨ j = 18 ∨ j = 19 ∨ j = 20 ∨ j = 21 ∨ j = 22 ∨ j = 23 ∨ j = 24 ∨ j = 25 ∨ j = 26 ∨ j = 27 ∨ j = 28 ∨ j = 29 ∨ j = 30 ∨ j = 31 ∨ j = 32 ∨ j = 33 ∨ j = 34 ∨ j = 35 ∨ j = 36 ∨ j = 37 ∨ j = 38 ∨ j = 39 ∨ j = 40 ∨ j = 41 ∨ j = 42 ∨ j = 43 ∨ j = 44 ∨ j = 45 ∨ j = 46 ∨ j = 47 ∨ j = 48 ∨ j = 49 ∨ j = 50 ∨ j = 51 ∨ j = 52 by omega) with rfl | rfl | rfl | rfl | rfl | rfl | rfl | rfl | rfl | rfl | rfl | rfl | rfl | rfl | rfl | rfl | rfl | rfl | rfl | rfl | rfl | rfl | rfl | rfl | rfl | rfl | rfl | rfl | rfl | rfl | rfl | rfl | rfl | rfl | rfl | rfl | rfl | rfl | rfl | rfl | rfl | rfl | rfl | rfl | rfl | rfl | rfl | rfl | rfl | rfl | rfl | rfl | rfl <;> rfl
set_option maxHeartbeats 4000000 in
set_option maxRecDepth 100000 in
/-- from the entry, for every script of at most 2560 ints, the law comes to its end with true -/
theorem whole_start {p : Program} {e : Env} {s : State} {m : MethodId} {below : List Frame} {meth : Method} {c : Code} (l : Launch) {b L : Nat} {xs : Nat → Int32} (hL : L ≤ 2560) (C0 : lw_At p s m meth c b L xs) : W p l e room_1 s m #[Value.ref b] below meth c s.heap [] 0 0 (lw_Z below #[Value.ref b] s) (entryFrame m ([Value.ref b] : List Value).toArray 4) := by
  obtain ⟨hx, hb, hr, hml, hown, hts, hX, hbl, hlocks, hgv⟩ := id C0
  have F : CallFix p m c cL_law 4 s #[Value.ref b] wsL_law RL := ⟨hx, hb, hml, hown, fun w h => hts w (wsL_law_in w h)⟩
  obtain ⟨D, cs, hK⟩ := law_K hts
  have hN0 : NW s := ⟨va_Nw.of rfl (hts _ nw_0), va_Nw.of rfl (hts _ nw_7), va_Nw.of rfl (hts _ nw_5), va_Nw.of rfl (hts _ nw_6), va_Nw.of rfl (hts _ nw_2), va_AO.of (hts _ nw_ao)⟩
  have hA : ∀ q : Nat, s.heap.size ≤ q → AZ s q := fun _ h => h
  have hS : va_S (AZ s) s.heap s.heap [] := va_S.rf
  have hP : va_P D vwCl [] s.heap := fun k q h => by simp at h
  have hD : va_D (AZ s) [] := ⟨fun i j p q h => by simp at h, fun k q h => by simp at h⟩
  have hl := lv_entry ([.ref b]) (n := 4) (Nat.le_of_ble_eq_true rfl)
  rw [lg_entry_eq]
  generalize (lg_sl ([.ref b]) ++ List.replicate (4 - (lg_sl ([.ref b])).length) Slot.unset).toArray = ls at hl ⊢
  have hl : lv_has ls 4 [(0, .ref b)] := hl
  refine nw_new (ci := 8) (fs := [.null, .null, .null, .null, .null, .null, .null, .null, .int 0]) (C := RX8) (T := TX8) (N := 9) F inlX8 tyX8 tyX8_ok inw_cl8 inw_in8 inw_it8 hK hP hD hS hA rfl (fun j hj => by rcases (show j = 0 ∨ j = 1 ∨ j = 2 ∨ j = 3 ∨ j = 4 ∨ j = 5 ∨ j = 6 ∨ j = 7 ∨ j = 8 by omega) with rfl | rfl | rfl | rfl | rfl | rfl | rfl | rfl | rfl <;> rfl) 1 9 (by decide) (by decide) dL_law_0 (fun q8 H hP hD hS => ?_)
  refine lv_dup F.1 F.2.1 dL_law_3 rfl ?_
  refine nw_call (wr := []) (rest := [.ref q8]) F [] (c_X8_init l D cs q8 H.size) (cwI 0 F.2.2.2.2 gL_law_X8_init rfl rfl rfl (F.2.2.2.2 _ inw_it8) (F.2.2.2.2 _ inw_ml8) (F.2.2.2.2 _ inw_im8) rfl (by decide +kernel) ⟨Nat.le_of_ble_eq_true rfl, Nat.le_of_ble_eq_true rfl⟩) hN0 hK hP hD hS hA [0] [] rfl rfl rfl rfl (by decide) rfl hl.1 rfl (Nat.le_of_ble_eq_true rfl) dL_law_4 84 6046 (by decide) (by decide) (fun u H locs hP hD hS => ?_)
  obtain ⟨wC, eC⟩ : ∃ w : va_W, w = wl shC idsC (D, cs, adz q8 u) S0 := ⟨_, rfl⟩
  have hP : va_P D vwCl wC H := by rw [eC]; exact hP
  have hD : va_D (AZ s) wC := by rw [eC]; exact hD
  refine lv_astore_n (lv' := [(1, .ref q8), (0, .ref b)]) F.1 F.2.1 dL_law_7 rfl hl (by decide) rfl (fun ls hl => ?_)
  refine nw_new (ci := 9) (fs := [.int 0, .null, .null, .null, .null, .int 0, .null, .int 0, .null, .null, .int 0, .int 0, .null, .null, .null, .null, .null, .null, .null, .null, .int 0, .int 0, .int 0, .null, .null, .null, .null, .null, .null, .null, .null, .null, .null, .int 0, .int 0, .int 0, .null, .null, .null, .null, .int 0, .null, .null, .null, .null, .null, .int 0, .null, .null, .null, .int 0, .null, .null]) (C := RX9) (T := TX9) (N := 53) F inlX9 tyX9 tyX9_ok inw_cl9 inw_in9 inw_it9 hK hP hD hS hA rfl df9 85 6099 (by decide) (by decide) dL_law_8 (fun q9 H hP hD hS => ?_)
  refine lv_dup F.1 F.2.1 dL_law_11 rfl ?_
  refine nw_call (rest := [.ref q9]) F [] (c_X9_init l D cs q9 H.size) (cwI 0 F.2.2.2.2 gL_law_X9_init rfl rfl rfl (F.2.2.2.2 _ inw_it9) (F.2.2.2.2 _ inw_ml9) (F.2.2.2.2 _ inw_im9) rfl (by decide +kernel) ⟨Nat.le_of_ble_eq_true rfl, Nat.le_of_ble_eq_true rfl⟩) hN0 hK hP hD hS hA [wC.length] (List.range wC.length) lastC2 lastR2 rfl (va_nd_range _) (last_dis _) rfl hl.1 rfl (Nat.le_of_ble_eq_true rfl) dL_law_12 124 23109 (by decide) (by decide) (fun v H locs hP hD hS => ?_)
  obtain ⟨wM, eM⟩ : ∃ w : va_W, w = wl shM idsM (D, cs, adz q9 v) T0 := ⟨_, rfl⟩
  have hP : va_P D vwCl (wC ++ wM) H := by rw [eM]; exact hP
  have hD : va_D (AZ s) (wC ++ wM) := by rw [eM]; exact hD
  refine lv_astore_n (lv' := [(2, .ref q9), (1, .ref q8), (0, .ref b)]) F.1 F.2.1 dL_law_15 rfl hl (by decide) rfl (fun ls hl => ?_)
  refine lv_iconst (v := 0) F.1 F.2.1 dL_law_16 (by decide) ?_
  refine lv_istore_n (lv' := [(3, .int 0), (2, .ref q9), (1, .ref q8), (0, .ref b)]) F.1 F.2.1 dL_law_17 rfl hl (by decide) rfl (fun ls hl => ?_)
  have X : LCx p m c s b L xs D cs (inL wC) (inL wM) := ⟨F, hK, hX, hbl, D_dis hD, D_A (D_l hD), D_A (D_r hD), hL⟩
  have hWC : Wd shC idsC (D, cs, adz q8 u) (inL wC) S0 H := by
    have h1 := P_l hP
    have h2 := inL_D (D_l hD)
    unfold Wd
    rw [← eC]
    exact ⟨h1, h2⟩
  have hWM : Wd shM idsM (D, cs, adz q9 v) (inL wM) T0 H := by
    have h1 := P_r hP
    have h2 := inL_D (D_r hD)
    unfold Wd
    rw [← eM]
    exact ⟨h1, h2⟩
  refine law_loop (aC := adz q8 u) (aM := adz q9 v) X hr hlocks (by decide) (L + 1) 0 (by omega) (by omega) S0 T0 H locs ls rel0 ⟨hWC, hWM⟩ hS ?_
  rw [show (0 : Int32) = nI 0 from nI_0.symm] at hl
  exact lv_sub hl [3, 2, 1, 0] rfl
