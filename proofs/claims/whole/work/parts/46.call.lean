/-! CALL -/
theorem kt_or : ∀ m, m < 32 → ∀ p, p < 5 → ∀ r, r < 5 → (m ||| 2 ^ p).testBit r = (m.testBit r || decide (r = p)) := by decide +kernel
theorem kt_and : ∀ m, m < 32 → ∀ p, p < 5 → ∀ r, r < 5 → (m &&& (31 - 2 ^ p)).testBit r = (m.testBit r && !(decide (r = p))) := by decide +kernel
theorem kt_lt : ∀ n, n < 6 → ∀ m, m < 2 ^ n → ∀ p, p < n → m ||| 2 ^ p < 2 ^ n := by decide +kernel
theorem kt_lt2 : ∀ n, n < 6 → ∀ m, m < 2 ^ n → ∀ p, p < 5 → m &&& (31 - 2 ^ p) < 2 ^ n := by decide +kernel
theorem kt_sub : ∀ m, m < 32 → ∀ k, k < 32 → ∀ p, p < 5 → m &&& k = m → m &&& (k ||| 2 ^ p) = m := by decide +kernel
theorem op_call : ∀ (a1 a2 : Int32), kj_op jJ (fun G => kjx_call G a1 a2) (fun G => kjm_call G a1 a2) := by
  intro a1 a2 k G hk hJ
  have hJ' := hJ
  obtain ⟨hL, hP, hA, hN, T, np, q, D, hU, hB, hR, hC, hM, hV, hK⟩ := hJ
  have hX' : jX kN G T np q D := ⟨hL, hU, hB, hC, hV, kN_gt⟩
  have hM' : jM kN G T np q D := ⟨hL, hU, hR, hM, hV, kN_gt⟩
  have h5 := hU.1
  have h6 := hU.2.1
  have e : fX11_in a2.toInt64 0 9 = if a2 < 0 then 0 else if a2 ≤ 9 then 1 else 0 := by
    rw [in_int]
    have a0 : (0 : Int64).toInt = 0 := rfl
    have a1 : (9 : Int64).toInt = 9 := rfl
    have a2' : (9 : Int32).toInt = 9 := rfl
    simp only [i_neg, Int32.le_iff_toInt_le, a0, a1, a2']
    by_cases z : a2.toInt < 0
    · simp [z]
    · by_cases y : a2.toInt ≤ 9
      · have : ¬ 9 < a2.toInt := by omega
        simp [z, y, this]
      · have : 9 < a2.toInt := by omega
        simp [z, y, this]
  by_cases z1 : jin a1 np = true
  rotate_left
  · refine ⟨-101, G, G, ?_, ?_, jJ_m k G hJ', kj_refl _⟩
    · show fX10_call G a1 a2 = _
      unfold fX10_call
      rw [x_isNumber hX', if_neg z1]; rfl
    · show fX11_call kN G a1 a2 = _
      unfold fX11_call
      rw [m_isPerson hM', if_neg z1]; rfl
  obtain ⟨p, hp, rfl⟩ := jin_of z1 (by omega)
  by_cases z2 : a2 < 0
  · refine ⟨-102, G, G, ?_, ?_, jJ_m k G hJ', kj_refl _⟩
    · show fX10_call G (nI p) a2 = _
      unfold fX10_call
      rw [x_isNumber hX', if_pos z1, Option.bind_some, if_neg (by decide), if_pos z2]
    · show fX11_call kN G (nI p) a2 = _
      unfold fX11_call
      rw [m_isPerson hM', if_pos z1, Option.bind_some, if_neg (by decide), e, if_pos z2, if_pos rfl]
  by_cases z3 : a2 ≤ 9
  rotate_left
  · refine ⟨-102, G, G, ?_, ?_, jJ_m k G hJ', kj_refl _⟩
    · show fX10_call G (nI p) a2 = _
      unfold fX10_call
      rw [x_isNumber hX', if_pos z1, Option.bind_some, if_neg (by decide), if_neg z2, if_neg z3]
    · show fX11_call kN G (nI p) a2 = _
      unfold fX11_call
      rw [m_isPerson hM', if_pos z1, Option.bind_some, if_neg (by decide), e, if_neg z2, if_neg z3, if_pos rfl]
  by_cases y : (jk D).testBit p = true
  · refine ⟨-103, G, G, ?_, ?_, jJ_m k G hJ', kj_refl _⟩
    · show fX10_call G (nI p) a2 = _
      unfold fX10_call
      rw [x_isNumber hX', if_pos z1, Option.bind_some, if_neg (by decide), if_neg z2, if_pos z3, x_has hX' (by omega), if_pos y, if_neg (by decide)]
    · show fX11_call kN G (nI p) a2 = _
      unfold fX11_call
      rw [m_isPerson hM', if_pos z1, Option.bind_some, if_neg (by decide), e, if_neg z2, if_pos z3, if_neg (by decide), m_isKept hM' hp, if_pos y]; rfl
  obtain ⟨s, hs, rfl⟩ := kn_of z2
  have hs9 : s ≤ 9 := by
    have z3' : nI s ≤ nI 9 := z3
    rw [kn_le hs (by omega)] at z3'; omega
  have hk32 := jk32 hV hU
  obtain ⟨c1, c2, c3, c4, c5, c6⟩ := hC
  obtain ⟨m1, m2, m3, m4, m5⟩ := hM
  obtain ⟨v1, v2, v3, ⟨w, hw, ew⟩, v5, v6, v7⟩ := hV
  have e7 : G.1 3 7 = nI w := (c4 7 (by omega) (by omega)).trans ew
  have e5 : G.1 28 5 = nI w := (m3 7 (by omega) (by omega)).trans ew
  have e11 : G.1 3 11 = jit D 11 := c4 11 (by omega) (by omega)
  have e9 : G.1 28 9 = jit D 11 := m3 11 (by omega) (by omega)
  have l4 : (G.2.1 4).length = 5 := hL 4 (by decide)
  have l5 : (G.2.1 5).length = 5 := hL 5 (by decide)
  have l6 : (G.2.1 6).length = 5 := hL 6 (by decide)
  have l31 : (G.2.1 31).length = 15 := hL 31 (by decide)
  have hor := kb_or _ hk32 p (show p < 5 by omega)
  let G1 := kg_i (kg_a (kg_a (kg_a (kg_i G 3 6 (nI (jk D ||| 2 ^ p))) 4 ((G.2.1 4).set p (nI s))) 5 ((G.2.1 5).set p (nI w))) 6 ((G.2.1 6).set p 0)) 3 11 (jit D 11 + 1)
  let X1 := (G.2.1 31).set (3 * p) (nI s)
  let X2 := X1.set (3 * p + 1) (nI w)
  let X3 := X2.set (3 * p + 2) 0
  have lx1 : X1.length = 15 := by show ((G.2.1 31).set _ _).length = 15; rw [List.length_set, l31]
  have lx2 : X2.length = 15 := by show (X1.set _ _).length = 15; rw [List.length_set, lx1]
  have lx3 : X3.length = 15 := by show (X2.set _ _).length = 15; rw [List.length_set, lx2]
  let G2 := kg_i (kg_a (kg_a (kg_a G1 31 X1) 31 X2) 31 X3) 28 9 (jit D 11 + 1)
  let D2 : jD := (jk D ||| 2 ^ p, fun r => if r = p then nI s else jst D r, fun r => if r = p then nI w else jtw D r, fun r => if r = p then 0 else jhd D r, jcs D, fun j => if j = 11 then jit D 11 + 1 else jit D j, jsn D, jsg D)
  have gX3 : ∀ r, X3.getD r 0 = if r = 3 * p + 2 then 0 else if r = 3 * p + 1 then nI w else if r = 3 * p then nI s else (G.2.1 31).getD r 0 := by
    intro r
    show (X2.set (3 * p + 2) 0).getD r 0 = _
    rw [getD_set (by omega)]
    show (if r = 3 * p + 2 then 0 else (X1.set (3 * p + 1) (nI w)).getD r 0) = _
    rw [getD_set (by omega)]
    show (if r = 3 * p + 2 then 0 else if r = 3 * p + 1 then nI w else ((G.2.1 31).set (3 * p) (nI s)).getD r 0) = _
    rw [getD_set (by omega)]
  have hL1 : jLn G1 := jLn_i (jLn_a (jLn_a (jLn_a (jLn_i hL) (jLn_set hL (by decide))) (jLn_set hL (by decide))) (jLn_set hL (by decide)))
  have hL2 : jLn G2 := jLn_i (jLn_a (jLn_a (jLn_a hL1 lx1) lx2) lx3)
  have hC2 : jTC G2 q 3 D2 := by
    refine ⟨rfl, ?_, c3, j712 (c4 7 (by omega) (by omega)) (c4 8 (by omega) (by omega)) (c4 9 (by omega) (by omega)) (c4 10 (by omega) (by omega)) rfl (c4 12 (by omega) (by omega)), c5, c6⟩
    intro r hr hb
    show ((G.2.1 4).set p (nI s)).getD r 0 = (if r = p then nI s else jst D r) ∧ ((G.2.1 5).set p (nI w)).getD r 0 = (if r = p then nI w else jtw D r) ∧ ((G.2.1 6).set p 0).getD r 0 = (if r = p then 0 else jhd D r)
    rw [getD_set (by omega), getD_set (by omega), getD_set (by omega)]
    have hb' : (jk D ||| 2 ^ p).testBit r = true := hb
    rw [kt_or _ hk32 p (by omega) r hr] at hb'
    by_cases x : r = p
    · rw [if_pos x, if_pos x, if_pos x, if_pos x, if_pos x, if_pos x]; exact ⟨rfl, rfl, rfl⟩
    · rw [if_neg x, if_neg x, if_neg x, if_neg x, if_neg x, if_neg x]
      refine c2 r hr ?_
      simpa [x] using hb'
  have hM2 : jTM G2 T np 31 32 38 jmc D2 := by
    refine ⟨?_, m2, j712 (m3 7 (by omega) (by omega)) (m3 8 (by omega) (by omega)) (m3 9 (by omega) (by omega)) (m3 10 (by omega) (by omega)) rfl (m3 12 (by omega) (by omega)), m4, m5⟩
    intro r hr
    have hr5 : r < 5 := by omega
    show X3.getD (3 * r) 0 = (if (jk D ||| 2 ^ p).testBit r then (if r = p then nI s else jst D r) else -1) ∧ X3.getD (3 * r + 1) 0 = (if (jk D ||| 2 ^ p).testBit r then (if r = p then nI w else jtw D r) else -1) ∧ X3.getD (3 * r + 2) 0 = (if (jk D ||| 2 ^ p).testBit r then (if r = p then 0 else jhd D r) else 0)
    rw [kt_or _ hk32 p (by omega) r hr5, gX3 (3 * r), gX3 (3 * r + 1), gX3 (3 * r + 2)]
    by_cases x : r = p
    · have dx : ((jk D).testBit r || decide (r = p)) = true := by simp [x]
      rw [if_pos dx, if_pos dx, if_pos dx, if_pos x, if_pos x, if_pos x]
      refine ⟨?_, ?_, ?_⟩
      · rw [if_neg (by omega), if_neg (by omega), if_pos (by omega)]
      · rw [if_neg (by omega), if_pos (by omega)]
      · rw [if_pos (by omega)]
    · have dx : ((jk D).testBit r || decide (r = p)) = (jk D).testBit r := by simp [x]
      rw [dx, if_neg x, if_neg x, if_neg x]
      refine ⟨?_, ?_, ?_⟩
      · rw [if_neg (by omega), if_neg (by omega), if_neg (by omega)]; exact (m1 r hr).1
      · rw [if_neg (by omega), if_neg (by omega), if_neg (by omega)]; exact (m1 r hr).2.1
      · rw [if_neg (by omega), if_neg (by omega), if_neg (by omega)]; exact (m1 r hr).2.2
  have hV2 : jV T np D2 := by
    refine ⟨kt_lt np (by omega) _ v1 p hp, ?_, ?_, ⟨w, hw, ew⟩, v5, v6, v7⟩
    · intro r hr hb
      show (∃ s', s' ≤ 9 ∧ (if r = p then nI s else jst D r) = nI s') ∧ ∃ w', w' ≤ 5 ∧ (if r = p then nI w else jtw D r) = nI w'
      have hb' : (jk D ||| 2 ^ p).testBit r = true := hb
      rw [kt_or _ hk32 p (by omega) r hr] at hb'
      by_cases x : r = p
      · rw [if_pos x, if_pos x]; exact ⟨⟨s, hs9, rfl⟩, w, hw, rfl⟩
      · rw [if_neg x, if_neg x]
        exact v2 r hr (by simpa [x] using hb')
    · intro t ht
      exact ⟨(v3 t ht).1, kt_sub _ (v3 t ht).1 _ hk32 p (by omega) (v3 t ht).2.1, (v3 t ht).2.2⟩
  have hF : jF G G2 := by
    refine ⟨?_, ?_, fun _ => rfl, fun _ => rfl, fun _ => rfl, rfl⟩ <;> simp [G2, G1, kg_i, kg_a]
  refine ⟨fJ6_bitCount_0f7a4 (nI (jk D ||| 2 ^ p)), G1, G2, ?_, ?_, jJ_F hL2 hP hA hN hU hB hR hK hF hC2 hM2 hV2, kj_refl _⟩
  · show fX10_call G (nI p) (nI s) = _
    unfold fX10_call fX9_join
    rw [x_isNumber hX', if_pos z1, Option.bind_some, if_neg (by decide), if_neg z2, if_pos z3, x_has hX' (by omega), if_neg y, if_pos rfl, kn_p (by omega) (by omega), Option.bind_some, e7, kn_p (by omega) (by omega), Option.bind_some, kn_p (by omega) (by omega), Option.bind_some, c1, hor.1, e11]
    rfl
  · have hMM : jM kN G2 T np q D2 := ⟨hL2, hU, jR_of hR rfl rfl rfl, hM2, hV2, kN_gt⟩
    have hM1 : jM kN G1 T np q D := jM_of hM' hL1 (fun _ => rfl) (by simp [G1, kg_i, kg_a])
    show fX11_call kN G1 (nI p) (nI s) = _
    have g31 : G1.2.1 31 = G.2.1 31 := rfl
    have g5 : G1.1 28 5 = nI w := e5
    have g9 : G1.1 28 9 = jit D 11 := e9
    unfold fX11_call
    rw [m_isPerson hM1, if_pos z1, Option.bind_some, if_neg (by decide), e, if_neg z2, if_pos z3, if_neg (by decide), m_isKept hM1 hp, if_neg y, Option.bind_some, if_pos rfl, g31, g5, g9, kn_3, kn_succ, kn_p2, kn_p (by omega) (by omega), Option.bind_some]
    show ((kv_p X1 (nI (3 * p + 1)) (nI w)).bind _) = _
    rw [kn_p (by omega) (by omega), Option.bind_some]
    show ((kv_p X2 (nI (3 * p + 2)) 0).bind _) = _
    rw [kn_p (by omega) (by omega), Option.bind_some]
    show ((fX11_keptSet kN G2).bind fun v7 => (fX11_ones kN v7).bind fun v8 => some (v8, G2)) = _
    rw [m_keptSet hMM, Option.bind_some, m_ones kN_gt (show jk D2 < 32 from hor.2)]
    rfl
