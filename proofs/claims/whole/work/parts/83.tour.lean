/-! TOURS, the order -/
theorem in_140 (a : Int32) : fX11_in a.toInt64 1 40 = if a < 1 then 0 else if 40 < a then 0 else 1 := by
  rw [in_int]
  have a0 : (1 : Int64).toInt = 1 := rfl
  have a1 : (40 : Int64).toInt = 40 := rfl
  have a2 : (40 : Int32).toInt = 40 := rfl
  have a3 : (1 : Int32).toInt = 1 := rfl
  simp only [Int32.lt_iff_toInt_lt, a0, a1, a2, a3]
theorem in_02 (a : Int32) : fX11_in a.toInt64 0 2 = if a < 0 then 0 else if a ≤ 2 then 1 else 0 := by
  rw [in_int]
  have a0 : (0 : Int64).toInt = 0 := rfl
  have a1 : (2 : Int64).toInt = 2 := rfl
  have a2 : (2 : Int32).toInt = 2 := rfl
  have a3 : (0 : Int32).toInt = 0 := rfl
  simp only [Int32.lt_iff_toInt_lt, Int32.le_iff_toInt_le, a0, a1, a2, a3]
  by_cases z : a.toInt < 0
  · simp [z]
  · by_cases y : a.toInt ≤ 2
    · have : ¬ 2 < a.toInt := by omega
      simp [z, y, this]
    · have : 2 < a.toInt := by omega
      simp [z, y, this]
theorem op_tours : ∀ (a1 a2 a3 : Int32), kj_op jJ (fun G => kjx_tours G a1 a2 a3) (fun G => kjm_tours G a1 a2 a3) := by
  intro l1 l2 l3 k G hk hJ
  have hJ' := hJ
  obtain ⟨hL, hP, hA, hN, T, np, q, D, hU, hB, hR, hC, hM, hV, hK⟩ := hJ
  have hX' : jX kN G T np q D := ⟨hL, hU, hB, hC, hV, kN_gt⟩
  have hM' : jM kN G T np q D := ⟨hL, hU, hR, hM, hV, kN_gt⟩
  have out : ∀ r, fX10_tours kN G l1 l2 l3 = some (r, G) → fX11_tours kN G l1 l2 l3 = some (r, G) → ∃ (r : Int32) (G1 G2 : kg_G), kjx_tours G l1 l2 l3 = some (r, G1) ∧ kjm_tours G1 l1 l2 l3 = some (r, G2) ∧ jJ (k + 1) G2 ∧ kj_b G G2 := fun r h1 h2 => ⟨r, G, G, h1, h2, jJ_m k G hJ', kj_refl _⟩
  have e1 := in_140 l1
  have e3 := in_02 l3
  by_cases z1 : l1 < 1
  · refine out (-102) ?_ ?_
    · unfold fX10_tours; rw [if_pos z1]
    · unfold fX11_tours; rw [e1, if_pos z1, if_pos rfl]
  by_cases z2 : 40 < l1
  · refine out (-102) ?_ ?_
    · unfold fX10_tours; rw [if_neg z1, if_pos z2]
    · unfold fX11_tours; rw [e1, if_neg z1, if_pos z2, if_pos rfl]
  have e1' : ¬ fX11_in l1.toInt64 1 40 = 0 := by rw [e1, if_neg z1, if_neg z2]; decide
  by_cases z3 : l2 < 0
  · refine out (-102) ?_ ?_
    · unfold fX10_tours; rw [if_neg z1, if_neg z2, if_pos z3]
    · unfold fX11_tours; rw [if_neg e1', if_pos z3]
  by_cases z4 : l3 < 0
  · refine out (-102) ?_ ?_
    · unfold fX10_tours; rw [if_neg z1, if_neg z2, if_neg z3, if_pos z4]
    · unfold fX11_tours; rw [if_neg e1', if_neg z3, e3, if_pos z4, if_pos rfl]
  by_cases z5 : l3 ≤ 2
  rotate_left
  · refine out (-102) ?_ ?_
    · unfold fX10_tours; rw [if_neg z1, if_neg z2, if_neg z3, if_neg z4, if_neg z5]
    · unfold fX11_tours; rw [if_neg e1', if_neg z3, e3, if_neg z4, if_neg z5, if_pos rfl]
  have e3' : ¬ fX11_in l3.toInt64 0 2 = 0 := by rw [e3, if_neg z4, if_pos z5]; decide
  by_cases hT : T = 0
  · refine out (-103) ?_ ?_
    · unfold fX10_tours; rw [if_neg z1, if_neg z2, if_neg z3, if_neg z4, if_pos z5, x_hasShow hX', if_pos hT]; rfl
    · unfold fX11_tours; rw [if_neg e1', if_neg z3, if_neg e3', m_lacks hM', if_pos hT]; rfl
  obtain ⟨m, hm, em⟩ : ∃ m, m ≤ 40 ∧ l1 = nI m := by
    have y1 : ¬ l1.toInt < (1 : Int32).toInt := fun h => z1 (Int32.lt_iff_toInt_lt.mpr h)
    have y2 : ¬ (40 : Int32).toInt < l1.toInt := fun h => z2 (Int32.lt_iff_toInt_lt.mpr h)
    have a2 : (40 : Int32).toInt = 40 := rfl
    have a3 : (1 : Int32).toInt = 1 := rfl
    refine ⟨l1.toInt.toNat, by omega, ?_⟩
    apply Int32.toInt_inj.mp
    rw [kn_int (by omega)]; omega
  obtain ⟨G1, b1, b2, b3⟩ := x_go hX' hm l2
  have hM1 : jM kN G1 T np q D := jM_of hM' b2.1 (fun j => b2.2.1 28 j (by decide)) (fun a ha => by
    have ha' : a = 30 ∨ a = 31 ∨ a = 32 ∨ a = 38 := by simpa using ha
    exact b2.2.2.2 a (by omega) (by omega))
  obtain ⟨G2, c1, c2⟩ := m_tours60 hM1 hm l2 l3
  rw [← em] at b1 c1
  obtain ⟨t1, t2, t3, t4, t5, t6⟩ := b3
  have f1 : ∀ a j, a ≠ 23 → ¬ (a = 28 ∧ (j = 25 ∨ j = 29)) → G2.1 a j = G.1 a j := fun a j h1 h2 => (c2.2.1 a j h2).trans (b2.2.1 a j h1)
  have f2 : ∀ a, a ≠ 24 → a ≠ 25 → a ≠ 39 → a ≠ 40 → a ≠ 41 → G2.2.1 a = G.2.1 a := fun a h1 h2 h3 h4 h5 => (c2.2.2.2 a h3 h4 h5).trans (b2.2.2.2 a h1 h2)
  have f3 : G2.2.2 = G.2.2 := c2.2.2.1.trans b2.2.2.1
  refine ⟨if l3 = 0 then (ttour T q l2 m).2.2.2.1 else if l3 = 1 then (ttour T q l2 m).2.2.2.2 else (ttour T q l2 m).2.2.1, G1, G2, ?_, ?_, ?_, ?_⟩
  · show fX10_tours kN G l1 l2 l3 = _
    unfold fX10_tours
    rw [if_neg z1, if_neg z2, if_neg z3, if_neg z4, if_pos z5, x_hasShow hX', if_neg hT, Option.bind_some, if_neg (by decide), b1, Option.bind_some, t3, t4, t5]
    split
    · rfl
    · split <;> rfl
  · show fX11_tours kN G1 l1 l2 l3 = _
    unfold fX11_tours
    rw [if_neg e1', if_neg z3, if_neg e3', m_lacks hM1, if_neg hT, if_pos rfl]
    exact c1
  · refine jJ_F (D := D) c2.1 hP hA hN hU hB hR hK ⟨fun a ha => ?_, fun j hj => ?_, fun j => f1 0 j (by decide) (by omega), fun j => f1 1 j (by decide) (by omega), fun j => f1 10 j (by decide) (by omega), congrArg (fun z => z.2) f3⟩ (jTC_of hC (fun j _ _ => f1 3 j (by decide) (by omega)) (fun a h1 h2 => f2 a (by omega) (by omega) (by omega) (by omega) (by omega))) (jTM_of hM (fun j h1 h2 => f1 28 _ (by decide) ?_) (f2 31 (by decide) (by decide) (by decide) (by decide) (by decide)) (f2 32 (by decide) (by decide) (by decide) (by decide) (by decide)) (f2 38 (by decide) (by decide) (by decide) (by decide) (by decide))) hV
    · have ha' : a ∈ [2, 22, 29, 30, 11, 12, 13, 14, 15, 16, 42, 43, 44] := ha
      simp only [List.mem_cons, List.not_mem_nil, or_false] at ha'
      exact f2 a (by omega) (by omega) (by omega) (by omega) (by omega)
    · have hj' : j ∈ [1, 3, 4, 11, 15, 21, 22, 30, 31, 32, 33, 34, 35, 36, 37] := hj
      simp only [List.mem_cons, List.not_mem_nil, or_false] at hj'
      exact f1 28 j (by decide) (by omega)
    · unfold jmc
      split <;> omega
  · unfold kj_b kg_Y
    rw [f3]; exact ⟨Nat.le_add_right _ _, Nat.le_add_right _ _⟩
