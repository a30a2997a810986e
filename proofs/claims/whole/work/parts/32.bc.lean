/-! ===== Integer.bitCount ===== -/
set_option maxRecDepth 100000 in
theorem int_bc0 : ∀ b, b < 32 → ∀ c, c < 128 → F_Int_bitCount (nI (128 * (b + 0) + c)) = some (nI (pc (nI (128 * (b + 0) + c)))) := by decide +kernel
set_option maxRecDepth 100000 in
theorem int_bc1 : ∀ b, b < 32 → ∀ c, c < 128 → F_Int_bitCount (nI (128 * (b + 32) + c)) = some (nI (pc (nI (128 * (b + 32) + c)))) := by decide +kernel
set_option maxRecDepth 100000 in
theorem int_bc2 : ∀ b, b < 32 → ∀ c, c < 128 → F_Int_bitCount (nI (128 * (b + 64) + c)) = some (nI (pc (nI (128 * (b + 64) + c)))) := by decide +kernel
set_option maxRecDepth 100000 in
theorem int_bc3 : ∀ b, b < 32 → ∀ c, c < 128 → F_Int_bitCount (nI (128 * (b + 96) + c)) = some (nI (pc (nI (128 * (b + 96) + c)))) := by decide +kernel
theorem lo14_nat {x : Int32} (h : lo14 x) : ∃ a, a < 16384 ∧ x = nI a := by
  refine ⟨x.toBitVec.toNat, ?_, ?_⟩
  · have : x.toBitVec.toNat < 2 ^ 14 := by
      apply Nat.lt_pow_two_of_testBit
      intro i hi
      exact h i hi
    omega
  · apply Int32.toBitVec_inj.1
    show x.toBitVec = BitVec.ofNat 32 x.toBitVec.toNat
    simp
theorem int_bc {x : Int32} (h : lo14 x) : F_Int_bitCount x = some (nI (pc x)) := by
  obtain ⟨a, ha, rfl⟩ := lo14_nat h
  have e : a = 128 * (a / 128) + a % 128 := by omega
  have hc : a % 128 < 128 := Nat.mod_lt _ (by decide)
  have hb : a / 128 < 128 := by omega
  rw [e]
  generalize a / 128 = b at hb
  generalize a % 128 = c at hc
  rcases (show b < 32 ∨ (32 ≤ b ∧ b < 64) ∨ (64 ≤ b ∧ b < 96) ∨ (96 ≤ b ∧ b < 128) by omega) with h | h | h | h
  · exact int_bc0 b h c hc
  · obtain ⟨d, rfl⟩ : ∃ d, b = d + 32 := ⟨b - 32, by omega⟩
    exact int_bc1 d (by omega) c hc
  · obtain ⟨d, rfl⟩ : ∃ d, b = d + 64 := ⟨b - 64, by omega⟩
    exact int_bc2 d (by omega) c hc
  · obtain ⟨d, rfl⟩ : ∃ d, b = d + 96 := ⟨b - 96, by omega⟩
    exact int_bc3 d (by omega) c hc
