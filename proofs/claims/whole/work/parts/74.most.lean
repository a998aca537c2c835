/-! MOST, FILL -/
theorem kN_big : 10000000 < kN := by decide
theorem kb_i10 : ∀ i, i < 5 → nI (10 + i) - 10 = nI i := by decide +kernel
theorem in_1014 (a : Int32) : fX11_in a.toInt64 10 14 = if a < 10 then 0 else if a ≤ 14 then 1 else 0 := by
  rw [in_int]
  have a0 : (10 : Int64).toInt = 10 := rfl
  have a1 : (14 : Int64).toInt = 14 := rfl
  have a2 : (14 : Int32).toInt = 14 := rfl
  have a3 : (10 : Int32).toInt = 10 := rfl
  simp only [Int32.lt_iff_toInt_lt, Int32.le_iff_toInt_le, a0, a1, a2, a3]
  by_cases z : a.toInt < 10
  · simp [z]
  · by_cases y : a.toInt ≤ 14
    · have : ¬ 14 < a.toInt := by omega
      simp [z, y, this]
    · have : 14 < a.toInt := by omega
      simp [z, y, this]
/-- one most or fill: both sides up to the best row -/
theorem b_most {k : Nat} {G : kg_G} {T np : Nat} {q : Nat → tk_Q} {D : jD} (hX : jX kN G T np q D) (hM : jM kN G T np q D) (hA : G.2.1 22 = kp_T) {a : Nat} (ha1 : G.1 0 8 = nI a) (ha2 : G.1 28 15 = nI a) : ∃ G1, fX10_planMost kN G = some (nI (sB T q (jst D) (jk D)).1, G1) ∧ xfr (kg_i G 0 8 (nI (a + 1))) G1 ∧ kxs (G1.2.1 18) (sB T q (jst D) (jk D)).2 T ∧ (∀ G1', jLn G1' → (∀ j, G1'.1 28 j = G1.1 28 j) → (∀ a, a ≠ 7 → G1'.2.1 a = G1.2.1 a) → fX11_keptSet kN (kg_i G1' 28 15 ((G1'.1 28 15) + 1)) = some (nI (jk D)) ∧ fX11_lacks G1' = (if T = 0 then 1 else 0) ∧ G1'.1 28 15 = nI a) := by
  obtain ⟨G1, e1, e2, e3⟩ := x_planMost hX hA
  rw [ha1, kn_succ] at e2
  refine ⟨G1, e1, e2, e3, fun G1' hL h28 h7 => ?_⟩
  have f28 : ∀ j, G1'.1 28 j = G.1 28 j := fun j => (h28 j).trans (e2.2.1 28 j (by decide))
  have hM2 : jM kN (kg_i G1' 28 15 ((G1'.1 28 15) + 1)) T np q D := jM_of2 hM hL (fun j h1 h2 h3 => by
    show (if j = 15 then _ else G1'.1 28 j) = _
    rw [if_neg h1, f28]) (fun a ha => by
    have ha' : a = 30 ∨ a = 31 ∨ a = 32 ∨ a = 38 := by simpa using ha
    exact (h7 a (by omega)).trans (e2.2.2.2 a (by omega)))
  have hM3 : jM kN G1' T np q D := jM_of2 hM hL (fun j h1 h2 h3 => f28 j) (fun a ha => by
    have ha' : a = 30 ∨ a = 31 ∨ a = 32 ∨ a = 38 := by simpa using ha
    exact (h7 a (by omega)).trans (e2.2.2.2 a (by omega)))
  exact ⟨m_keptSet hM2, m_lacks hM3, (f28 15).trans ha2⟩
theorem jN_most {k : Nat} {G : kg_G} {a : Nat} (hN : jN k G) (ha : a < 16) : jN k (kg_i (kg_i G 0 8 (nI (a + 1))) 28 15 (nI (a + 1))) := by
  obtain ⟨n3, n4, n5, n6⟩ := hN
  exact ⟨n3, ⟨a + 1, by omega, rfl, rfl⟩, n5, n6⟩
theorem op_most : ∀ (a1 : Int32), kj_op jJ (fun G => kjx_most G a1) (fun G => kjm_most G a1) := by
  intro w k G hk hJ
  have hJ' := hJ
  obtain ⟨hL, hP, hA, hN, T, np, q, D, hU, hB, hR, hC, hM, hV, hK⟩ := hJ
  have hX' : jX kN G T np q D := ⟨hL, hU, hB, hC, hV, kN_gt⟩
  have hM' : jM kN G T np q D := ⟨hL, hU, hR, hM, hV, kN_gt⟩
  have h5 := hU.1
  have ew := in_1014 w
  -- what is asked for
  have cases3 : (w = 0 ∨ ∃ i, i < 5 ∧ w = nI (10 + i)) ∨ (¬ w = 0 ∧ (w < 10 ∨ (¬ w < 10 ∧ ¬ w ≤ 14))) := by
    by_cases z : w = 0
    · exact Or.inl (Or.inl z)
    by_cases y : w < 10
    · exact Or.inr ⟨z, Or.inl y⟩
    by_cases x : w ≤ 14
    · left; right
      have y1 : ¬ w.toInt < (10 : Int32).toInt := fun h => y (Int32.lt_iff_toInt_lt.mpr h)
      have x1 := Int32.le_iff_toInt_le.mp x
      have a2 : (14 : Int32).toInt = 14 := rfl
      have a3 : (10 : Int32).toInt = 10 := rfl
      refine ⟨w.toInt.toNat - 10, by omega, ?_⟩
      apply Int32.toInt_inj.mp
      rw [kn_int (by omega)]; omega
    · exact Or.inr ⟨z, Or.inr ⟨y, x⟩⟩
  rcases cases3 with hw | ⟨hw0, hw⟩
  rotate_left
  · refine ⟨-102, G, G, ?_, ?_, jJ_m k G hJ', kj_refl _⟩
    · show fX10_most kN G w = _
      unfold fX10_most
      rw [if_neg hw0]
      rcases hw with z | ⟨z, y⟩
      · rw [if_pos z]
      · rw [if_neg z, if_neg y]
    · show fX11_most kN G w = _
      unfold fX11_most
      rw [if_neg hw0, ew]
      rcases hw with z | ⟨z, y⟩
      · rw [if_pos z, if_pos rfl]
      · rw [if_neg z, if_neg y, if_pos rfl]
  have ex : ∀ G, fX10_most kN G w = fX10_most_19 kN G w := by
    intro G
    unfold fX10_most
    rcases hw with z | ⟨i, hi, z⟩
    · rw [if_pos z]
    · have z1 : ¬ w < 10 := by
        rw [z]
        show ¬ nI (10 + i) < nI 10
        rw [kn_lt (by omega) (by omega)]; omega
      have z2 : w ≤ 14 := by
        rw [z]
        show nI (10 + i) ≤ nI 14
        rw [kn_le (by omega) (by omega)]; omega
      rw [if_neg z1, if_pos z2]
      split <;> rfl
  have em : ∀ G, fX11_most kN G w = fX11_most_21 kN G w := by
    intro G
    unfold fX11_most
    rcases hw with z | ⟨i, hi, z⟩
    · rw [if_pos z]
    · have z1 : ¬ w < 10 := by
        rw [z]
        show ¬ nI (10 + i) < nI 10
        rw [kn_lt (by omega) (by omega)]; omega
      have z2 : w ≤ 14 := by
        rw [z]
        show nI (10 + i) ≤ nI 14
        rw [kn_le (by omega) (by omega)]; omega
      rw [ew, if_neg z1, if_pos z2, if_neg (show ¬ (1 : Int32) = 0 by decide)]
      split <;> rfl
  obtain ⟨_, ⟨a, ha, ha1, ha2⟩, _, _⟩ := id hN
  by_cases hT : T = 0
  · refine ⟨-103, G, G, ?_, ?_, jJ_m k G hJ', kj_refl _⟩
    · show fX10_most kN G w = _
      rw [ex]
      unfold fX10_most_19
      rw [x_hasShow hX', if_pos hT]; rfl
    · show fX11_most kN G w = _
      rw [em]
      unfold fX11_most_21
      rw [m_lacks hM', if_pos hT]; rfl
  have elt : (nI a < (16 : Int32)) = (a < 16) := kn_lt (a := a) (b := 16) (by omega) (by omega)
  have eeq : (nI a = (16 : Int32)) = (a = 16) := kn_eq (a := a) (b := 16) (by omega) (by omega)
  by_cases h16 : a = 16
  · refine ⟨-103, G, G, ?_, ?_, jJ_m k G hJ', kj_refl _⟩
    · show fX10_most kN G w = _
      rw [ex]
      unfold fX10_most_19
      rw [x_hasShow hX', if_neg hT, Option.bind_some, if_neg (by decide), ha1, if_neg (by rw [elt]; omega)]
    · show fX11_most kN G w = _
      rw [em]
      unfold fX11_most_21
      rw [m_lacks hM', if_neg hT, if_pos rfl, ha2, if_pos (by rw [eeq]; exact h16)]
  obtain ⟨G1, b1, b2, b3, b4⟩ := b_most (k := k) hX' hM' hA ha1 ha2
  obtain ⟨c1, c2, c3⟩ := b4 G1 b2.1 (fun _ => rfl) (fun _ _ => rfl)
  have f28 : ∀ j, G1.1 28 j = G.1 28 j := fun j => b2.2.1 28 j (by decide)
  have hM2 : jM kN (kg_i G1 28 15 (nI (a + 1))) T np q D := jM_of2 hM' b2.1 (fun j h1 h2 h3 => by
    show (if j = 15 then _ else G1.1 28 j) = _
    rw [if_neg h1, f28]) (fun x hx => by
    have hx' : x = 30 ∨ x = 31 ∨ x = 32 ∨ x = 38 := by simpa using hx
    exact b2.2.2.2 x (by omega))
  have hkk : jk D &&& jk D = jk D := Nat.and_self _
  obtain ⟨G2, d1, d2, d3⟩ := m_layMost hM2 kN_big (jk32 hV hU) hkk
  have hp := pfr_of b2 d2
  have hpl : jJ (k + 1) G2 := jJ_plan (x := 8) (y := 15) (v := nI (a + 1)) hP hA hU hB hR hC hM hV hK (Or.inl ⟨rfl, rfl⟩) (jN_most hN (by omega)) hp.1 hp.2.1 hp.2.2.1 (fun x h1 h2 _ _ => hp.2.2.2 x h1 h2) (jcs D) (fun t ht => by
    have := hC.2.2.1 t ht
    unfold kA at this ⊢
    rw [hp.2.2.2 7 (by omega) (by omega)]; exact this) (fun t ht => by
    have := hM.2.1 t ht
    unfold kA at this ⊢
    rw [hp.2.2.2 32 (by omega) (by omega)]; exact this) hV.2.2.1
  have hkj : kj_b G G2 := by
    unfold kj_b kg_Y
    rw [hp.2.2.1]; exact ⟨Nat.le_add_right _ _, Nat.le_add_right _ _⟩
  rw [c3, kn_succ] at c1
  have em2 : ∀ r, ((fX11_mostOf kN (kg_i G1 28 15 (nI (a + 1))) w).bind fun v2 => some (v2.1, v2.2)) = some (r, G2) → fX11_most kN G1 w = some (r, G2) := by
    intro r hr
    rw [em]
    unfold fX11_most_21
    rw [c2, if_neg hT, if_pos rfl, c3, if_neg (by rw [eeq]; exact h16), kn_succ]
    exact hr
  have ex2 : ∀ r, (if w = 0 then some (nI (sB T q (jst D) (jk D)).1, G1) else (kv_g (G1.2.1 18) (w - 10)).bind fun v3 => some (v3, G1)) = some (r, G1) → fX10_most kN G w = some (r, G1) := by
    intro r hr
    rw [ex]
    unfold fX10_most_19
    rw [x_hasShow hX', if_neg hT, Option.bind_some, if_neg (by decide), ha1, if_pos (by rw [elt]; omega), b1, Option.bind_some]
    exact hr
  rcases hw with z | ⟨i, hi, z⟩
  · refine ⟨nI (sB T q (jst D) (jk D)).1, G1, G2, ex2 _ (by rw [if_pos z]), em2 _ ?_, hpl, hkj⟩
    unfold fX11_mostOf
    rw [c1, Option.bind_some, d1, Option.bind_some, if_pos z]; rfl
  · have z0 : ¬ w = 0 := by
      rw [z]
      intro y
      have := (kn_eq (a := 10 + i) (b := 0) (by omega) (by omega)).mp y
      omega
    refine ⟨nI ((sB T q (jst D) (jk D)).2 i), G1, G2, ex2 _ ?_, em2 _ ?_, hpl, hkj⟩
    · have l18 : (G1.2.1 18).length = 5 := b3.1
      rw [if_neg z0, z, kb_i10 i hi, kn_g (by omega) (by omega), Option.bind_some, b3.2.1 i hi]
    · have l36 : (G2.2.1 36).length = 5 := d3.1
      have g36 : kv_g (G2.2.1 36) (nI i) = some (nI ((sB T q (jst D) (jk D)).2 i)) := by rw [kn_g (by omega) (by omega), d3.2 i hi]
      unfold fX11_mostOf
      rw [c1, Option.bind_some, d1, Option.bind_some, if_neg z0, z, kb_i10 i hi]
      show ((kv_g (G2.2.1 36) (nI i)).bind fun v3 => some (v3, G2)).bind _ = _
      rw [g36]; rfl
