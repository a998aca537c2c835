/-! CAST, DROP, CLEAR -/
/-- the state with one cast changed -/
abbrev jDc (D : jD) (f : Nat → Nat) : jD := (jk D, jst D, jtw D, jhd D, f, jit D, jsn D, jsg D)
theorem kb_or_t : ∀ m, m < 32 → ∀ p, p < 5 → nI m ||| (1 <<< (nI p &&& 31)) = nI (m ||| 2 ^ p) := fun m hm p hp => (kb_or m hm p hp).1
theorem kb_or_s : ∀ m, m < 32 → ∀ k, k < 32 → ∀ p, p < 5 → m &&& k = m → k.testBit p = true → (m ||| 2 ^ p) &&& k = m ||| 2 ^ p := by decide +kernel
theorem kb_and_s : ∀ m, m < 32 → ∀ k, k < 32 → ∀ p, p < 5 → m &&& k = m → (m &&& (31 - 2 ^ p)) &&& k = m &&& (31 - 2 ^ p) := by decide +kernel
theorem kset_and0 (f g : Nat → Bool) : (nI (kset f 5) &&& nI (kset g 5) = 0) = (nI (kset g 5) &&& nI (kset f 5) = 0) := by rw [Int32.and_comm]
/-- a new row of casts on both sides keeps all -/
theorem jJ_cast {k : Nat} {G : kg_G} {T np : Nat} {q : Nat → tk_Q} {D : jD} (hL : jLn G) (hP : jP G) (hA : G.2.1 22 = kp_T) (hN : jN k G) (hU : jU T np q) (hB : jB G T np q) (hR : jR G T np q) (hC : jTC G q 3 D) (hM : jTM G T np 31 32 38 jmc D) (hV : jV T np D) (hK : G.1 0 6 = 1 → ∃ D', jTC G q 10 D' ∧ jTM G T np 42 43 44 jmk D' ∧ jV T np D') {xs ys : List Int32} (f : Nat → Nat) (hx : xs.length = 5) (hy : ys.length = 5) (ex : ∀ t, t < 5 → xs.getD t 0 = nI (f t)) (ey : ∀ t, t < T → ys.getD t 0 = nI (f t)) (hf : ∀ t, t < 5 → f t < 32 ∧ f t &&& jk D = f t ∧ (T ≤ t → f t = 0)) : jJ (k + 1) (kg_a (kg_a G 7 xs) 32 ys) := by
  obtain ⟨c1, c2, c3, c4, c5, c6⟩ := hC
  obtain ⟨m1, m2, m3, m4, m5⟩ := hM
  obtain ⟨v1, v2, v3, v4, v5, v6, v7⟩ := hV
  refine jJ_F (D := jDc D f) (jLn_a (jLn_a hL hx) hy) hP hA hN hU hB hR hK ?_ ⟨c1, c2, ex, c4, c5, c6⟩ ⟨m1, ey, m3, m4, m5⟩ ⟨v1, v2, hf, v4, v5, v6, v7⟩
  refine ⟨?_, ?_, fun _ => rfl, fun _ => rfl, fun _ => rfl, rfl⟩ <;> simp [kg_a]
theorem op_cast : ∀ (a1 a2 : Int32), kj_op jJ (fun G => kjx_cast G a1 a2) (fun G => kjm_cast G a1 a2) := by
  intro a1 a2 k G hk hJ
  have hJ' := hJ
  obtain ⟨hL, hP, hA, hN, T, np, q, D, hU, hB, hR, hC, hM, hV, hK⟩ := hJ
  have hX' : jX kN G T np q D := ⟨hL, hU, hB, hC, hV, kN_gt⟩
  have hM' : jM kN G T np q D := ⟨hL, hU, hR, hM, hV, kN_gt⟩
  have h5 := hU.1
  have h6 := hU.2.1
  by_cases z1 : jin a1 T = true
  rotate_left
  · refine ⟨-101, G, G, ?_, ?_, jJ_m k G hJ', kj_refl _⟩
    · show fX10_cast kN G a1 a2 = _
      unfold fX10_cast
      rw [x_isTrick hX', if_neg z1]; rfl
    · show fX11_cast kN G a1 a2 = _
      unfold fX11_cast
      rw [m_isTrick hM', if_neg z1]; rfl
  by_cases z2 : jin a2 np = true
  rotate_left
  · refine ⟨-101, G, G, ?_, ?_, jJ_m k G hJ', kj_refl _⟩
    · show fX10_cast kN G a1 a2 = _
      unfold fX10_cast
      rw [x_isNumber hX', if_neg z2, x_isTrick hX', if_pos z1]; rfl
    · show fX11_cast kN G a1 a2 = _
      unfold fX11_cast
      rw [m_isPerson hM', if_neg z2, m_isTrick hM', if_pos z1]; rfl
  obtain ⟨t, ht, rfl⟩ := jin_of z1 (by omega)
  obtain ⟨p, hp, rfl⟩ := jin_of z2 (by omega)
  have hc := hV.2.2.1 t (by omega)
  have hk32 := jk32 hV hU
  obtain ⟨t0, ws, x, hb, hta, hl, hx⟩ := hB
  have hB : jB G T np q := ⟨t0, ws, x, hb, hta, hl, hx⟩
  -- what the class asks
  let C : Bool := (jk D).testBit p && !((jcs D t).testBit p) && !(decide (tk_crew (q t) ≤ fJ6_bitCount_0f7a4 (nI (jcs D t)))) && decide (nI (kset (jcl q t) T) &&& nI (kset (fun t => (jcs D t).testBit p) 5) = 0)
  have exC : fX10_mayBeCast kN G (nI t) (nI p) = some (if C then 1 else 0) := by
    unfold fX10_mayBeCast
    simp only [xc_g hX' (show t < 5 by omega), Option.bind_some, x_has hX' (show p < 5 by omega), kb_has _ hc.1 p (by omega), hb, hta, (hx t ht).1, (hx t ht).2, x_clashesOf hX' ht, x_tricksOf hX' (show p < 5 by omega)]
    show _ = some (if ((jk D).testBit p && !((jcs D t).testBit p) && !(decide (tk_crew (q t) ≤ fJ6_bitCount_0f7a4 (nI (jcs D t)))) && decide (nI (kset (jcl q t) T) &&& nI (kset (fun t => (jcs D t).testBit p) 5) = 0)) = true then 1 else 0)
    by_cases y1 : (jk D).testBit p = true <;> by_cases y2 : (jcs D t).testBit p = true <;> by_cases y3 : tk_crew (q t) ≤ fJ6_bitCount_0f7a4 (nI (jcs D t)) <;> by_cases y4 : nI (kset (jcl q t) T) &&& nI (kset (fun t => (jcs D t).testBit p) 5) = 0 <;> simp [y1, y2, y3, y4]
  sorry
