/-! NIGHT, second -/
theorem op_night : kj_op jJ (fun G => kjx_night G) (fun G => kjm_night G) := by
  intro k G hk hJ
  have hJ' := hJ
  obtain ⟨hL, hP, hA, hN, T, np, q, D, hU, hB, hR, hC, hM, hV, hK⟩ := hJ
  have hX' : jX kN G T np q D := ⟨hL, hU, hB, hC, hV, kN_gt⟩
  have hM' : jM kN G T np q D := ⟨hL, hU, hR, hM, hV, kN_gt⟩
  have h5 := hU.1
  have h6 := hU.2.1
  by_cases hT : T = 0
  · refine ⟨-103, G, G, ?_, ?_, jJ_m k G hJ', kj_refl _⟩
    · show fX10_night kN G = _
      unfold fX10_night
      rw [x_hasShow hX', if_pos hT]; rfl
    · show fX11_night kN G = _
      unfold fX11_night
      rw [m_lacks hM', if_pos hT]; rfl
  have hS := jns_ok hV hU
  have hk32 := jk32 hV hU
  have hSk := (kb_andb _ hS.1 _ hk32).mp hS.2
  obtain ⟨c1, c2, c3, c4, c5, c6⟩ := hC
  obtain ⟨m1, m2, m3, m4, m5⟩ := hM
  obtain ⟨v1, v2, v3, v4, ⟨n, hn, en⟩, v6, v7⟩ := id hV
  have e8 : G.1 3 8 = jit D 8 := c4 8 (by omega) (by omega)
  have e6 : G.1 28 6 = jit D 8 := m3 8 (by omega) (by omega)
  have e9 : G.1 3 9 = jit D 9 := c4 9 (by omega) (by omega)
  have e7 : G.1 28 7 = jit D 9 := m3 9 (by omega) (by omega)
  by_cases h99 : n = 99
  · refine ⟨-104, G, G, ?_, ?_, jJ_m k G hJ', kj_refl _⟩
    · show fX10_night kN G = _
      unfold fX10_night
      rw [x_hasShow hX', if_neg hT, Option.bind_some, if_neg (by decide), e8, en, h99, if_neg (by decide)]
    · show fX11_night kN G = _
      unfold fX11_night
      rw [m_lacks hM', if_neg hT, if_pos rfl, e6, en, h99, if_pos (by decide)]
  have hlt : nI n < (99 : Int32) := by
    show nI n < nI 99
    rw [kn_lt (by omega) (by omega)]; omega
  have hne : ¬ nI n = (99 : Int32) := fun w => h99 ((kn_eq (a := n) (b := 99) (by omega) (by omega)).mp w)
  let S := jns q D T
  let R := jdn q D T
  have l6 : (G.2.1 6).length = 5 := hL 6 (by decide)
  have l31 : (G.2.1 31).length = 15 := hL 31 (by decide)
  let xs := kmap (fun j v => if S.testBit j then v + 1 else v) 5 (G.2.1 6)
  have lx : xs.length = 5 := by show (kmap _ _ _).length = 5; rw [kmap_len, l6]
  let G1 := kg_i (kg_i (kg_a G 6 xs) 3 8 (jit D 8 + 1)) 3 9 (jit D 9 + R)
  have hL1 : jLn G1 := jLn_i (jLn_i (jLn_a hL lx))
  have hM1 : jM kN G1 T np q D := jM_of hM' hL1 (fun _ => rfl) (by simp [G1, kg_i, kg_a])
  have ex : fX10_night kN G = some (R, G1) := by
    unfold fX10_night
    rw [x_hasShow hX', if_neg hT, Option.bind_some, if_neg (by decide), e8, en, if_pos hlt, x_night31 hX', x_hold hL hS.1, Option.bind_some]
    show some (R, kg_i (kg_i (kg_a G 6 xs) 3 8 (G.1 3 8 + 1)) 3 9 (G.1 3 9 + R)) = _
    rw [e8, e9]
  -- the reference's rows of people
  have key : ∃ ys : List Int32, ys.length = 15 ∧ (∀ r, ys.getD r 0 = if r % 3 = 2 ∧ r / 3 < np then (G.2.1 31).getD r 0 + (if S.testBit (r / 3) then 1 else 0) else (G.2.1 31).getD r 0) ∧ ∃ n', fX11_night_69 kN kN G1 (nI S) 0 = fX11_night_69 kN (n' + 1) (kg_a G1 31 ys) (nI S) (nI np) := by
    obtain ⟨n', a', f1, ys, f2, f3, f4⟩ := kl_inv (fun n (g : kg_G) i => fX11_night_69 kN n g (nI S) i) (fun j g => ∃ ys : List Int32, g = kg_a G1 31 ys ∧ ys.length = 15 ∧ ∀ r, ys.getD r 0 = if r % 3 = 2 ∧ r / 3 < j then (G.2.1 31).getD r 0 + (if S.testBit (r / 3) then 1 else 0) else (G.2.1 31).getD r 0) np (n := kN) (a := G1) (by have := kN_gt; omega) ⟨G.2.1 31, (kg_as G1 31).symm, l31, fun r => by rw [if_neg (by omega)]⟩ (by
      intro n g j hj ⟨ys, g1, g2, g3⟩
      refine ⟨kg_a G1 31 (ys.set (3 * j + 2) ((G.2.1 31).getD (3 * j + 2) 0 + (if S.testBit j then 1 else 0))), ?_, _, rfl, ?_, ?_⟩
      · show fX11_night_69 kN (n + 1) g (nI S) (nI j) = fX11_night_69 kN n _ (nI S) (nI (j + 1))
        have gnp : (kg_a G1 31 ys).1 28 4 = nI np := hR.2.1
        have hl : jLen 31 = 15 := rfl
        have gy : ys.getD (3 * j + 2) 0 = (G.2.1 31).getD (3 * j + 2) 0 := by rw [g3, if_neg (by omega)]
        rw [g1, fX11_night_69, gnp, if_neg (m_loop (by omega) hj), kn_3, kn_p2, kv_ga g2 (by omega) (by decide), Option.bind_some, kv_pa g2 (by omega) (by decide), Option.bind_some, kg_aa, kn_succ, kb_sh S hS.1 j (by omega), gy]
      · rw [List.length_set, g2]
      · intro r
        rw [getD_set (by omega), g3 r]
        by_cases z : r = 3 * j + 2
        · have y1 : r % 3 = 2 ∧ r / 3 < j + 1 := by omega
          have y2 : r / 3 = j := by omega
          rw [if_pos z, if_pos y1, y2, z]
        · rw [if_neg z]
          by_cases y : r % 3 = 2 ∧ r / 3 < j
          · rw [if_pos y, if_pos (show r % 3 = 2 ∧ r / 3 < j + 1 by omega)]
          · rw [if_neg y, if_neg (show ¬ (r % 3 = 2 ∧ r / 3 < j + 1) by omega)])
    exact ⟨ys, f3, f4, n', by rw [← f2]; exact f1⟩
  obtain ⟨ys, ly, gy, n', f1⟩ := key
  let D2 : jD := (jk D, jst D, jtw D, fun p => if S.testBit p then jhd D p + 1 else jhd D p, jcs D, fun j => if j = 8 then jit D 8 + 1 else if j = 9 then jit D 9 + R else jit D j, jsn D, jsg D)
  let DH : jD := (jk D, jst D, jtw D, fun p => if S.testBit p then jhd D p + 1 else jhd D p, jcs D, jit D, jsn D, jsg D)
  let H := kg_a G1 31 ys
  have hLH : jLn H := jLn_a hL1 ly
  let G2 := kg_i (kg_i H 28 6 (jit D 8 + 1)) 28 7 (jit D 9 + R)
  have hfolk : ∀ p, p < np → ys.getD (3 * p) 0 = (if (jk D).testBit p then jst D p else -1) ∧ ys.getD (3 * p + 1) 0 = (if (jk D).testBit p then jtw D p else -1) ∧ ys.getD (3 * p + 2) 0 = (if (jk D).testBit p then (if S.testBit p then jhd D p + 1 else jhd D p) else 0) := by
    intro p hp
    have mp := m1 p hp
    unfold kA at mp
    refine ⟨?_, ?_, ?_⟩
    · rw [gy, if_neg (by omega)]; exact mp.1
    · rw [gy, if_neg (by omega)]; exact mp.2.1
    · have y2 : (3 * p + 2) / 3 = p := by omega
      rw [gy, if_pos (by omega), y2, mp.2.2]
      by_cases z : S.testBit p = true
      · have := hSk p (by omega) z
        rw [if_pos z, if_pos this, if_pos this, if_pos z]
      · rw [if_neg z, if_neg z, i_add0]
  have hMH : jM kN H T np q DH := ⟨hLH, hU, jR_of hR rfl rfl rfl, ⟨hfolk, m2, m3, m4, m5⟩, ⟨v1, v2, v3, v4, ⟨n, hn, en⟩, v6, v7⟩, kN_gt⟩
  refine ⟨R, G1, G2, ex, ?_, ?_, kj_refl _⟩
  · show fX11_night kN G1 = _
    unfold fX11_night
    have g6 : G1.1 28 6 = nI n := e6.trans en
    have gnp : H.1 28 4 = nI np := hR.2.1
    have h6' : H.1 28 6 = jit D 8 := e6
    have h7' : H.1 28 7 = jit D 9 := e7
    rw [m_lacks hM1, if_neg hT, if_pos rfl, g6, if_neg hne, m_night26 hM1]
    refine Eq.trans f1 ?_
    show fX11_night_69 kN (n' + 1) H (nI S) (nI np) = _
    rw [fX11_night_69, gnp, if_pos (by rw [kn_le (by omega) (by omega)]; omega), m_doneNow hMH, Option.bind_some, h6', h7']
    rfl
  · refine jJ_F (D := D2) (jLn_i (jLn_i hLH)) hP hA hN hU hB hR hK ?_ ⟨c1, ?_, c3, ?_, c5, c6⟩ ⟨hfolk, m2, ?_, m4, m5⟩ ⟨v1, v2, v3, v4, ⟨n + 1, by omega, ?_⟩, v6, v7⟩
    · refine ⟨?_, ?_, fun _ => rfl, fun _ => rfl, fun _ => rfl, rfl⟩ <;> simp [G2, H, G1, kg_i, kg_a]
    · intro p hp hb
      have cp := c2 p hp hb
      refine ⟨cp.1, cp.2.1, ?_⟩
      show (kmap (fun j v => if S.testBit j then v + 1 else v) 5 (G.2.1 6)).getD p 0 = if S.testBit p then jhd D p + 1 else jhd D p
      rw [kmap_get _ _ 5 p (by omega), if_pos hp]
      show (if S.testBit p then (G.2.1 6).getD p 0 + 1 else (G.2.1 6).getD p 0) = _
      rw [show (G.2.1 6).getD p 0 = jhd D p from cp.2.2]
    · exact j712 (c4 7 (by omega) (by omega)) rfl rfl (c4 10 (by omega) (by omega)) (c4 11 (by omega) (by omega)) (c4 12 (by omega) (by omega))
    · exact j712 (m3 7 (by omega) (by omega)) rfl rfl (m3 10 (by omega) (by omega)) (m3 11 (by omega) (by omega)) (m3 12 (by omega) (by omega))
    · show jit D 8 + 1 = nI (n + 1)
      rw [en, kn_succ]
