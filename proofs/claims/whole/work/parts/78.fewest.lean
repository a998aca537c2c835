/-! FEWEST, the order -/
theorem in_01 (a : Int32) : fX11_in a.toInt64 0 1 = if a = 0 then 1 else if a = 1 then 1 else 0 := by
  rw [in_int]
  have a0 : (0 : Int64).toInt = 0 := rfl
  have a1 : (1 : Int64).toInt = 1 := rfl
  have a2 : (0 : Int32).toInt = 0 := rfl
  have a3 : (1 : Int32).toInt = 1 := rfl
  have e0 : (a = 0) = (a.toInt = 0) := propext ⟨fun h => by rw [h]; rfl, fun h => Int32.toInt_inj.mp (by rw [h]; rfl)⟩
  have e1 : (a = 1) = (a.toInt = 1) := propext ⟨fun h => by rw [h]; rfl, fun h => Int32.toInt_inj.mp (by rw [h]; rfl)⟩
  simp only [a0, a1, e0, e1]
  by_cases z : a.toInt < 0
  · have z1 : ¬ a.toInt = 0 := by omega
    have z2 : ¬ a.toInt = 1 := by omega
    simp [z, z1, z2]
  · by_cases y : 1 < a.toInt
    · have z1 : ¬ a.toInt = 0 := by omega
      have z2 : ¬ a.toInt = 1 := by omega
      simp [z, y, z1, z2]
    · by_cases x : a.toInt = 0
      · simp [x]
      · have z2 : a.toInt = 1 := by omega
        simp [z2]
theorem jN_few {k : Nat} {G : kg_G} {a : Nat} (hN : jN k G) (ha : a < 6) : jN k (kg_i (kg_i G 0 9 (nI (a + 1))) 28 21 (nI (a + 1))) := by
  obtain ⟨n3, n4, n5, n6⟩ := hN
  exact ⟨n3, n4, ⟨a + 1, by omega, rfl, rfl⟩, n6⟩
theorem op_fewest : ∀ (a1 : Int32), kj_op jJ (fun G => kjx_fewest G a1) (fun G => kjm_fewest G a1) := by
  intro w k G hk hJ
  have hJ' := hJ
  obtain ⟨hL, hP, hA, hN, T, np, q, D, hU, hB, hR, hC, hM, hV, hK⟩ := hJ
  have hX' : jX kN G T np q D := ⟨hL, hU, hB, hC, hV, kN_gt⟩
  have hM' : jM kN G T np q D := ⟨hL, hU, hR, hM, hV, kN_gt⟩
  have h5 := hU.1
  have ew := in_01 w
  by_cases hw : w = 0 ∨ w = 1
  rotate_left
  · have w0 : ¬ w = 0 := fun z => hw (Or.inl z)
    have w1 : ¬ w = 1 := fun z => hw (Or.inr z)
    refine ⟨-102, G, G, ?_, ?_, jJ_m k G hJ', kj_refl _⟩
    · show fX10_fewest kN G w = _
      unfold fX10_fewest
      rw [if_neg w0, if_neg w1]
    · show fX11_fewest kN G w = _
      unfold fX11_fewest
      rw [ew, if_neg w0, if_neg w1, if_pos rfl]
  have ex : ∀ G, fX10_fewest kN G w = fX10_fewest_12 kN G w := by
    intro G
    unfold fX10_fewest
    rcases hw with z | z
    · rw [if_pos z]
    · rw [if_pos z]
      split <;> rfl
  have ein : ¬ fX11_in w.toInt64 0 1 = 0 := by
    rw [ew]
    rcases hw with z | z
    · rw [if_pos z]; decide
    · rw [if_pos z]
      split <;> decide
  obtain ⟨_, _, ⟨a, ha, ha1, ha2⟩, _⟩ := id hN
  by_cases hT : T = 0
  · refine ⟨-103, G, G, ?_, ?_, jJ_m k G hJ', kj_refl _⟩
    · show fX10_fewest kN G w = _
      rw [ex]
      unfold fX10_fewest_12
      rw [x_hasShow hX', if_pos hT]; rfl
    · show fX11_fewest kN G w = _
      unfold fX11_fewest
      rw [if_neg ein, m_lacks hM', if_pos hT]; rfl
  have elt : (nI a < (6 : Int32)) = (a < 6) := kn_lt (a := a) (b := 6) (by omega) (by omega)
  have eeq : (nI a = (6 : Int32)) = (a = 6) := kn_eq (a := a) (b := 6) (by omega) (by omega)
  by_cases h16 : a = 6
  · refine ⟨-103, G, G, ?_, ?_, jJ_m k G hJ', kj_refl _⟩
    · show fX10_fewest kN G w = _
      rw [ex]
      unfold fX10_fewest_12
      rw [x_hasShow hX', if_neg hT, Option.bind_some, if_neg (by decide), ha1, if_neg (by rw [elt]; omega)]
    · show fX11_fewest kN G w = _
      unfold fX11_fewest
      rw [if_neg ein, m_lacks hM', if_neg hT, if_pos rfl, ha2, if_pos (by rw [eeq]; exact h16)]
  have hk32 := jk32 hV hU
  have h8 : jX kN (kg_i G 0 9 (nI (a + 1))) T np q D := jX_of hX' hL (fun _ => rfl) (fun _ _ _ => rfl) rfl
  obtain ⟨P, p1, p2, p3, p4, p5⟩ := x_prep2 h8 hA
  obtain ⟨S, s2, s1⟩ := x_fewestOf (D := D) kN_gt p3 p2 hk32 (fun i hi hb => (hC.2.1 i hi hb).1) (by omega)
  obtain ⟨aw, v, xs, ys, hx, hy, rfl⟩ := s2
  have b2 := p4 aw v xs ys hx hy
  obtain ⟨c1, c2, f28⟩ := jM_plan (w := nI (a + 1)) hM' rfl b2 (y := 21) (by omega)
  obtain ⟨G2, d2, d1⟩ := m_fewestOf c1 kN_big w
  have hp := pfr_of b2 d2
  have hpl : jJ (k + 1) G2 := jJ_plan (x := 9) (y := 21) (v := nI (a + 1)) hP hA hU hB hR hC hM hV hK (Or.inr (Or.inl ⟨rfl, rfl⟩)) (jN_few hN (by omega)) hp.1 hp.2.1 hp.2.2.1 (fun x h1 h2 _ _ => hp.2.2.2 x h1 h2) (jcs D) (fun t ht => by
    have := hC.2.2.1 t ht
    unfold kA at this ⊢
    rw [hp.2.2.2 7 (by omega) (by omega)]; exact this) (fun t ht => by
    have := hM.2.1 t ht
    unfold kA at this ⊢
    rw [hp.2.2.2 32 (by omega) (by omega)]; exact this) hV.2.2.1
  have hkj : kj_b G G2 := by
    unfold kj_b kg_Y
    rw [hp.2.2.1]; exact ⟨Nat.le_add_right _ _, Nat.le_add_right _ _⟩
  have e36 : P.1 3 6 = nI (jk D) := (p5.2.1 3 6 (by decide)).trans hC.1
  have p1' : fX4_prepare kN (kg_i G 0 9 (nI (a + 1))) G.2.2.2.1 = some P := p1
  have ex2 : ∀ r0 r, fX4_fewestOf kN P (nI (jk D)) = some (r0, ks P aw v xs ys) → (if w = 1 then r0 else if r0 = -1 then r0 else fJ6_bitCount_0f7a4 r0) = r → fX10_fewest kN G w = some (r, ks P aw v xs ys) := by
    intro r0 r h1 h2
    rw [ex]
    unfold fX10_fewest_12
    rw [x_hasShow hX', if_neg hT, Option.bind_some, if_neg (by decide), ha1, if_pos (by rw [elt]; omega), kn_succ, p1', Option.bind_some, e36, h1, Option.bind_some, ← h2]
    split
    · rfl
    · split <;> rfl
  have em2 : ∀ r, fX11_fewestOf kN (kg_i (ks P aw v xs ys) 28 21 (nI (a + 1))) w = some (r, G2) → fX11_fewest kN (ks P aw v xs ys) w = some (r, G2) := by
    intro r h1
    unfold fX11_fewest
    rw [if_neg ein, m_lacks c2, if_neg hT, if_pos rfl, f28, ha2, if_neg (by rw [eeq]; exact h16), kn_succ, h1, Option.bind_some]
  have nn1 : ∀ x, x < 32 → ¬ nI x = -1 := by decide +kernel
  rcases s1 with ⟨x, x1, x2⟩ | ⟨y1, y2⟩
  · rcases d1 with ⟨x', x1', x2'⟩ | ⟨y1', y2'⟩
    · have : x' = x := smn_eq x1' x1
      rw [this] at x2'
      refine ⟨_, ks P aw v xs ys, G2, ex2 (nI x) _ x2 ?_, em2 _ x2', hpl, hkj⟩
      rw [if_neg (nn1 x x1.1)]
    · exact absurd x1.2.1 (y1' x x1.1)
  · rcases d1 with ⟨x', x1', x2'⟩ | ⟨y1', y2'⟩
    · exact absurd x1'.2.1 (y1 x' x1'.1)
    · refine ⟨_, ks P aw v xs ys, G2, ex2 (-1) _ y2 ?_, em2 _ y2', hpl, hkj⟩
      rw [if_pos rfl]
      split <;> rfl
