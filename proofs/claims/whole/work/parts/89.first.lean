/-! ===== the first heaps are alike ===== -/
theorem fz : nt (0 : Int32) = 0 := by decide +kernel
theorem fis (b : Nat) : isn (0 : Int32) b := ⟨by decide +kernel, by rw [fz]; exact Nat.zero_le _⟩
theorem fno {P : Prop} {i : Nat} (h : i < nt (0 : Int32)) : P := absurd h (by rw [fz]; exact Nat.not_lt_zero _)
theorem fVP : VP zM0 := by
  refine ⟨⟨fis 6, fun i h => fno h⟩, ⟨fis 3, fun r _ => fis 3, fun r h => fno h, fun _ _ _ => rfl, fun r v _ h => fno h⟩, ⟨fis 3, fun c h => fno h⟩, ⟨fis 80, fun c h => fno h⟩, ⟨fis 24, fun _ _ => fis 4, fun _ _ _ => rfl, fun s h => fno h⟩, Or.inl rfl⟩
theorem fEQ : EQ zB6 zM0 := by
  refine ⟨⟨funext fun _ => rfl, funext fun _ => rfl, funext fun _ => rfl, funext fun _ => rfl, funext fun _ => rfl, funext fun _ => rfl, funext fun _ => rfl, funext fun _ => rfl, funext fun _ => rfl, funext fun _ => rfl, funext fun _ => rfl, funext fun _ => rfl, funext fun _ => rfl, funext fun _ => rfl, funext fun _ => rfl, funext fun _ => rfl, funext fun _ => rfl, funext fun _ => rfl, funext fun _ => rfl, funext fun _ => rfl, funext fun _ => rfl, funext fun _ => rfl, funext fun _ => rfl, funext fun _ => rfl⟩, ⟨rfl, rfl, rfl, rfl, rfl, rfl, rfl, rfl⟩, fun r _ => ⟨0, by decide, rfl, fun p _ => ⟨Or.inl rfl, ?_⟩⟩, Or.inl rfl, fun _ e h => fno h, fun _ => rfl⟩
  rw [Nat.zero_testBit]
  exact ⟨fun h => absurd h (by decide), fun h => absurd (show (0 : Int32) = nI 1 from h) (by decide)⟩
theorem fR : R zB6 zM0 := ⟨⟨fVP, fEQ, ⟨funext fun _ => rfl, rfl⟩, ⟨fis 8, fun k h => fno h⟩, Or.inl ⟨rfl, rfl⟩⟩, Or.inl ⟨⟨rfl, rfl, rfl, rfl, rfl, rfl⟩, rfl⟩⟩
