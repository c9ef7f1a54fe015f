/-! What the constructors leave is related -/
theorem no0 {P : Nat → Prop} : ∀ k, k < 0 → P k := fun k h => absurd h (Nat.not_lt_zero k)
theorem rel0C : BC (fun _ => (0, 0, 0, 0)) 0 0 (fun _ => 0) 0 (fun _ => (0, 0, 0, fun _ => 0)) [] 0 (fun _ => 0) 0 S0 :=
  ⟨⟨⟨by decide, by decide, by decide, no0, no0, ⟨by decide, no0⟩⟩, no0, by decide, by decide⟩, ⟨by decide, trivial⟩, ⟨by decide, no0⟩, ⟨by decide, no0⟩, by decide⟩
theorem rel0M : BM (fun _ => (0, 0, 0, 0)) 0 0 (fun _ => 0) 0 (fun _ => (0, 0, 0, fun _ => 0)) [] 0 (fun _ => 0) 0 T0 :=
  ⟨⟨⟨by decide, no0⟩, by decide, no0, ⟨by decide, no0⟩, no0, no0⟩, ⟨by decide, trivial⟩, ⟨by decide, no0⟩, ⟨by decide, no0⟩, by decide⟩
theorem rel0 : Rel S0 T0 := ⟨fun _ => (0, 0, 0, 0), 0, 0, fun _ => 0, 0, fun _ => (0, 0, 0, fun _ => 0), [], 0, fun _ => 0, 0, none, ⟨⟨by decide, by decide, no0, no0⟩, ⟨rfl, rfl, rfl⟩, ⟨by decide, no0⟩, by decide⟩, rel0C, ⟨by decide, fun how h => by cases h⟩, rel0M, ⟨by decide, fun how h => by cases h⟩⟩
