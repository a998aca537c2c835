/-! FAULT -/
section JFA
variable {G : kg_G}
theorem x_digit {i c : Nat} (hi : i < 36) (hc : kv_g (G.2.1 2) (nI i) = some (nI c)) (lo hi' : Int32) : fX2_isDigit G (nI i) lo hi' = some (if nI c - 48 < lo then 0 else if hi' < nI c - 48 then 0 else 1) := by
  unfold fX2_isDigit fX2_digitAt
  have q1 : ¬ (36 : Int32) ≤ nI i := m_loop (m := 36) (by omega) hi
  rw [if_neg (kn_neg (by omega)), if_neg q1, hc, Option.bind_some, Option.bind_some]
  split
  · rfl
  · split <;> rfl
theorem g_5 : ∀ r, r < 5 → (nI r = 0 ↔ r = 0) ∧ (nI r = 1 ↔ r = 1) ∧ (nI r = 2 ↔ r = 2) ∧ (nI r = 3 ↔ r = 3) := by decide +kernel
theorem x_isOfTricks {i c : Nat} (hi : i < 36) (hc : kv_g (G.2.1 2) (nI i) = some (nI c)) (hc127 : c < 127) : fX2_isOfTricks kN G (nI i) = some (if gT i c then 1 else 0) := by
  unfold fX2_isOfTricks gT
  have m5 : i % 5 < 5 := Nat.mod_lt _ (by decide)
  obtain ⟨r0, r1, r2, r3⟩ := g_5 (i % 5) m5
  obtain ⟨d1, d2, d3, _⟩ := g_dig c hc127
  have gi := g_idx0 c hc127
  have e44 : (nI c = 44) = (c = 44) := kn_eq (a := c) (b := 44) (by omega) (by omega)
  have e59 : (nI c = 59) = (c = 59) := kn_eq (a := c) (b := 59) (by omega) (by omega)
  have t1 : ((5 : Int32) ≤ nI i / 5 + 1) = (5 ≤ i / 5 + 1) := by
    rw [g_div5 i hi, kn_succ]
    exact kn_le (a := 5) (b := i / 5 + 1) (by omega) (by omega)
  have t2 : (nI i / 5 + 1 < (2 : Int32)) = (i / 5 + 1 < 2) := by
    rw [g_div5 i hi, kn_succ]
    exact kn_lt (a := i / 5 + 1) (b := 2) (by omega) (by omega)
  simp only [g_mod5 i hi, r0, r1, r2, r3, hc, Option.bind_some, g_idx c hc127, gi, x_digit hi hc, d1, d2, d3, e44, e59, t1, t2]
  by_cases z0 : i % 5 = 0
  · rw [if_pos z0, if_pos z0]
    cases gK c <;> simp
  rw [if_neg z0, if_neg z0]
  by_cases z1 : i % 5 = 1
  · rw [if_pos z1, if_pos z1]
    cases gD c 48 55 <;> simp
  rw [if_neg z1, if_neg z1]
  by_cases z2 : i % 5 = 2
  · rw [if_pos z2, if_pos z2]
    cases gD c 49 52 <;> simp
  rw [if_neg z2, if_neg z2]
  by_cases z3 : i % 5 = 3
  · rw [if_pos z3, if_pos z3]
    cases gD c 48 57 <;> simp
  rw [if_neg z3, if_neg z3]
  by_cases y1 : c = 44
  · subst y1
    by_cases w : i < 24
    · have : ¬ 5 ≤ i / 5 + 1 := by omega
      simp [w, this]
    · have : 5 ≤ i / 5 + 1 := by omega
      simp [w, this]
  · by_cases y2 : c = 59
    · subst y2
      by_cases w : 4 < i
      · have : ¬ i / 5 + 1 < 2 := by omega
        simp [w, this]
      · have : i / 5 + 1 < 2 := by omega
        simp [w, this]
    · simp [y1, y2]
theorem m_isTrickLetter {i c : Nat} (hi : i < 36) (hc : kv_g (G.2.1 29) (nI i) = some (nI c)) (hc127 : c < 127) : fX11_isTrickLetter G (nI i) = some (if gT i c then 1 else 0) := by
  unfold fX11_isTrickLetter fX11_isTrickLetter_102 gT
  have m5 : i % 5 < 5 := Nat.mod_lt _ (by decide)
  obtain ⟨r0, r1, r2, r3⟩ := g_5 (i % 5) m5
  obtain ⟨d1, d2, d3, _⟩ := g_in c hc127
  have gi := g_kind c hc127
  have e44 : (nI c = 44) = (c = 44) := kn_eq (a := c) (b := 44) (by omega) (by omega)
  have e59 : (nI c = 59) = (c = 59) := kn_eq (a := c) (b := 59) (by omega) (by omega)
  have t1 : (nI i < (24 : Int32)) = (i < 24) := kn_lt (a := i) (b := 24) (by omega) (by omega)
  have t2 : (nI i ≤ (4 : Int32)) = (i ≤ 4) := kn_le (a := i) (b := 4) (by omega) (by omega)
  simp only [g_mod5 i hi, r0, r1, r2, r3, hc, Option.bind_some, gi, d1, d2, d3, e44, e59, t1, t2]
  by_cases z0 : i % 5 = 0
  · rw [if_pos z0, if_pos z0]
    cases gK c <;> simp
  rw [if_neg z0, if_neg z0]
  by_cases z1 : i % 5 = 1
  · rw [if_pos z1, if_pos z1]
    cases gD c 48 55 <;> simp
  rw [if_neg z1, if_neg z1]
  by_cases z2 : i % 5 = 2
  · rw [if_pos z2, if_pos z2]
    cases gD c 49 52 <;> simp
  rw [if_neg z2, if_neg z2]
  by_cases z3 : i % 5 = 3
  · rw [if_pos z3, if_pos z3]
    cases gD c 48 57 <;> simp
  rw [if_neg z3, if_neg z3]
  by_cases y1 : c = 44
  · subst y1
    by_cases w : i < 24
    · simp [w]
    · simp [w]
  · by_cases y2 : c = 59
    · subst y2
      by_cases w : 4 < i
      · have : ¬ i ≤ 4 := by omega
        simp [w, this]
      · have : i ≤ 4 := by omega
        simp [w, this]
    · simp [y1, y2]
end JFA
