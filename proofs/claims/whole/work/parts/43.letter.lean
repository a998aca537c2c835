/-! LETTER, SEE -/
theorem a6 {P : Nat → Prop} (c : Nat) (h1 : P (c + 1)) (h2 : P (c + 2)) (h3 : P (c + 3)) (h4 : P (c + 4)) (h5 : P (c + 5)) (h6 : P (c + 6)) : ∀ a, c + 1 ≤ a → a ≤ c + 6 → P a := by
  intro a ha hb
  have : a = c + 1 ∨ a = c + 2 ∨ a = c + 3 ∨ a = c + 4 ∨ a = c + 5 ∨ a = c + 6 := by omega
  rcases this with h | h | h | h | h | h <;> subst h <;> assumption
theorem getD_set {xs : List Int32} {i j : Nat} {v : Int32} (h : i < xs.length) : (xs.set i v).getD j 0 = if j = i then v else xs.getD j 0 := by
  rw [List.getD_eq_getElem?_getD, List.getElem?_set, List.getD_eq_getElem?_getD]
  by_cases e : i = j
  · subst e; simp [h]
  · have : ¬ j = i := fun z => e z.symm
    simp [e, this]
theorem kA_a (G : kg_G) (a b i : Nat) (xs : List Int32) : kA (kg_a G a xs) b i = if b = a then xs.getD i 0 else kA G b i := by
  unfold kA kg_a
  show (if b = a then xs else G.2.1 b).getD i 0 = _
  split <;> rfl
theorem kA_i (G : kg_G) (a k b i : Nat) (v : Int32) : kA (kg_i G a k v) b i = kA G b i := rfl
theorem jM_of {N : Nat} {G G1 : kg_G} {T np : Nat} {q : Nat → tk_Q} {D : jD} (h : jM N G T np q D) (hL : jLn G1) (e1 : ∀ j, G1.1 28 j = G.1 28 j) (e2 : ∀ a, a ∈ [30, 31, 32, 38] → G1.2.1 a = G.2.1 a) : jM N G1 T np q D := by
  obtain ⟨h1, h2, h3, h4, h5, h6⟩ := h
  exact ⟨hL, h2, jR_of h3 (e1 3) (e1 4) (e2 30 (by decide)), jTM_of h4 (fun j _ _ => e1 _) (e2 31 (by decide)) (e2 32 (by decide)) (e2 38 (by decide)), h5, h6⟩
theorem op_letter : ∀ (a1 : Int32), kj_op jJ (fun G => kjx_letter G a1) (fun G => kjm_letter G a1) := by
  intro a k G hk hJ
  have hJ' := hJ
  obtain ⟨hL, hP, hA, hN, T, np, q, D, hU, hB, hR, hC, hM, hV, hK⟩ := hJ
  obtain ⟨p1, p2, n, hn, en, pc⟩ := hP
  have e : fX11_in a.toInt64 1 126 = if a < 1 then 0 else if a ≤ 126 then 1 else 0 := by
    rw [in_int]
    have a0 : (1 : Int64).toInt = 1 := rfl
    have a1 : (126 : Int64).toInt = 126 := rfl
    have a2 : (126 : Int32).toInt = 126 := rfl
    have a3 : (1 : Int32).toInt = 1 := rfl
    simp only [Int32.lt_iff_toInt_lt, Int32.le_iff_toInt_le, a0, a1, a2, a3]
    by_cases z : a.toInt < 1
    · simp [z]
    · by_cases y : a.toInt ≤ 126
      · have : ¬ 126 < a.toInt := by omega
        simp [z, y, this]
      · have : 126 < a.toInt := by omega
        simp [z, y, this]
  by_cases z : a < 1
  · refine ⟨-102, G, G, ?_, ?_, jJ_m k G hJ', kj_refl _⟩
    · show fX10_letter G a = _
      unfold fX10_letter
      rw [if_pos z]
    · show fX11_letter G a = _
      unfold fX11_letter
      rw [e, if_pos z, if_pos rfl]
  by_cases y : a ≤ 126
  rotate_left
  · refine ⟨-102, G, G, ?_, ?_, jJ_m k G hJ', kj_refl _⟩
    · show fX10_letter G a = _
      unfold fX10_letter
      rw [if_neg z, if_neg y]
    · show fX11_letter G a = _
      unfold fX11_letter
      rw [e, if_neg z, if_neg y, if_pos rfl]
  obtain ⟨c, hc, rfl⟩ := kn_of (x := a) (by
    intro w
    exact z (Int32.lt_trans w (by decide)))
  have hc1 : 1 ≤ c := by
    have z' : ¬ nI c < nI 1 := z
    rw [kn_lt hc (by omega)] at z'; omega
  have hc2 : c ≤ 126 := by
    have y' : nI c ≤ nI 126 := y
    rw [kn_le hc (by omega)] at y'; omega
  have l2 : (G.2.1 2).length = 36 := hL 2 (by decide)
  have l29 : (G.2.1 29).length = 36 := hL 29 (by decide)
  by_cases h36 : n = 36
  · subst h36
    refine ⟨-104, G, G, ?_, ?_, jJ_m k G hJ', kj_refl _⟩
    · show fX10_letter G (nI c) = _
      unfold fX10_letter fX2_put
      rw [if_neg z, if_pos y, p2, en, if_neg (by decide)]; rfl
    · show fX11_letter G (nI c) = _
      unfold fX11_letter
      rw [e, if_neg z, if_pos y, if_neg (by decide), en, if_pos (by decide)]
  · have hlt : nI n < (36 : Int32) := by
      show nI n < nI 36
      rw [kn_lt (by omega) (by omega)]; omega
    have hne : ¬ nI n = (36 : Int32) := fun w => h36 ((kn_eq (a := n) (b := 36) (by omega) (by omega)).mp w)
    refine ⟨nI (n + 1), kg_i (kg_a G 2 ((G.2.1 2).set n (nI c))) 1 1 (nI (n + 1)), kg_i (kg_a (kg_i (kg_a G 2 ((G.2.1 2).set n (nI c))) 1 1 (nI (n + 1))) 29 ((G.2.1 29).set n (nI c))) 28 1 (nI (n + 1)), ?_, ?_, ?_, kj_refl _⟩
    · show fX10_letter G (nI c) = _
      unfold fX10_letter fX2_put
      rw [if_neg z, if_pos y, p2, en, if_pos hlt, kn_p (by omega) (by omega), kn_succ]; rfl
    · show fX11_letter (kg_i (kg_a G 2 ((G.2.1 2).set n (nI c))) 1 1 (nI (n + 1))) (nI c) = _
      unfold fX11_letter
      have g1 : (kg_i (kg_a G 2 ((G.2.1 2).set n (nI c))) 1 1 (nI (n + 1))).1 28 1 = nI n := en
      have g2 : (kg_i (kg_a G 2 ((G.2.1 2).set n (nI c))) 1 1 (nI (n + 1))).2.1 29 = G.2.1 29 := rfl
      rw [e, if_neg z, if_pos y, if_neg (by decide), g1, g2, if_neg hne, kn_p (by omega) (by omega), kn_succ]; rfl
    · refine ⟨?_, ⟨?_, rfl, n + 1, by omega, rfl, ?_⟩, hA, jJ_N hN, T, np, q, D, hU, jB_of hB rfl, jR_of hR rfl rfl rfl, jTC_of hC (fun _ _ _ => rfl) (a6 3 rfl rfl rfl rfl rfl rfl), jTM_of hM (j713 rfl rfl rfl rfl rfl rfl rfl) rfl rfl rfl, hV, ?_⟩
      · exact jLn_i (jLn_a (jLn_i (jLn_a hL (jLn_set hL (by decide)))) (jLn_set hL (by decide)))
      · show (G.2.1 2).set n (nI c) = (G.2.1 29).set n (nI c)
        rw [p1]
      · intro i hi
        show ∃ c', 1 ≤ c' ∧ c' ≤ 126 ∧ ((G.2.1 29).set n (nI c)).getD i 0 = nI c'
        rw [getD_set (by omega)]
        by_cases w : i = n
        · exact ⟨c, hc1, hc2, by rw [if_pos w]⟩
        · obtain ⟨c', g1, g2, g3⟩ := pc i (by omega)
          exact ⟨c', g1, g2, by rw [if_neg w]; exact g3⟩
      · intro h
        obtain ⟨D', k1, k2, k3⟩ := hK h
        exact ⟨D', jTC_of k1 (fun _ _ _ => rfl) (a6 10 rfl rfl rfl rfl rfl rfl), jTM_of k2 (j713 rfl rfl rfl rfl rfl rfl rfl) rfl rfl rfl, k3⟩
theorem jss_if (q : tk_Q) (b : Int32) (K : Int32 → Option (Int32 × kg_G)) : (if kj_z b = 0 then K (1023 &&& (tk_suitedStrongs q ^^^ (-1))) else K (tk_suitedStrongs q)) = K (jss q (!(decide (b = 0)))) := by
  unfold jss kj_z
  by_cases z : b = 0
  · simp [z]
  · simp [z]
theorem op_see : ∀ (a1 a2 a3 : Int32), kj_op jJ (fun G => kjx_see G a1 a2 (kj_z a3)) (fun G => kjm_see G a1 a2 (kj_z a3)) := by
  intro a1 a2 a3 k G hk hJ
  have hJ' := hJ
  obtain ⟨hL, hP, hA, hN, T, np, q, D, hU, hB, hR, hC, hM, hV, hK⟩ := hJ
  have hX' : jX kN G T np q D := ⟨hL, hU, hB, hC, hV, kN_gt⟩
  have hM' : jM kN G T np q D := ⟨hL, hU, hR, hM, hV, kN_gt⟩
  have h5 := hU.1
  have h6 := hU.2.1
  by_cases z1 : jin a1 np = true
  rotate_left
  · refine ⟨-101, G, G, ?_, ?_, jJ_m k G hJ', kj_refl _⟩
    · show fX10_see G a1 a2 (kj_z a3) = _
      unfold fX10_see
      rw [x_isNumber hX', if_neg z1]; rfl
    · show fX11_see G a1 a2 (kj_z a3) = _
      unfold fX11_see
      rw [m_isPerson hM', if_neg z1]; rfl
  by_cases z2 : jin a2 T = true
  rotate_left
  · refine ⟨-101, G, G, ?_, ?_, jJ_m k G hJ', kj_refl _⟩
    · show fX10_see G a1 a2 (kj_z a3) = _
      unfold fX10_see
      rw [x_isNumber hX', if_pos z1, x_isTrick hX', if_neg z2]; rfl
    · show fX11_see G a1 a2 (kj_z a3) = _
      unfold fX11_see
      rw [m_isPerson hM', if_pos z1, m_isTrick hM', if_neg z2]; rfl
  obtain ⟨p, hp, rfl⟩ := jin_of z1 (by omega)
  obtain ⟨t, ht, rfl⟩ := jin_of z2 (by omega)
  obtain ⟨c1, c2, c3, c4, c5, c6⟩ := hC
  obtain ⟨m1, m2, m3, m4, m5⟩ := hM
  obtain ⟨v1, v2, v3, v4, v5, v6, v7⟩ := hV
  have m4' : G.1 28 23 = nI (jsn D) := m4
  have l8 : (G.2.1 8).length = 8 := hL 8 (by decide)
  have l9 : (G.2.1 9).length = 8 := hL 9 (by decide)
  have l38 : (G.2.1 38).length = 24 := hL 38 (by decide)
  have ex : fX10_see G (nI p) (nI t) (kj_z a3) = fX10_see_55 G (nI p) (jss (q t) (!(decide (a3 = 0)))) := by
    obtain ⟨t0, ws, x, hb, hta, hl, hx⟩ := hB
    unfold fX10_see
    rw [x_isNumber hX', if_pos z1, x_isTrick hX', if_pos z2]
    simp only [hb, Option.bind_some, hta, (hx t ht).1, (hx t ht).2]
    rw [if_neg (by decide), if_neg (by decide)]
    exact jss_if (q t) a3 (fun s => fX10_see_55 G (nI p) s)
  by_cases h8 : jsn D = 8
  · refine ⟨-104, G, G, ?_, ?_, jJ_m k G hJ', kj_refl _⟩
    · show fX10_see G (nI p) (nI t) (kj_z a3) = _
      rw [ex]
      unfold fX10_see_55 fX9_addSeen
      rw [c5, h8, if_neg (by decide)]; rfl
    · show fX11_see G (nI p) (nI t) (kj_z a3) = _
      unfold fX11_see
      rw [m_isPerson hM', if_pos z1, m_isTrick hM', if_pos z2, m4', h8]; rfl
  · have hlt : nI (jsn D) < (8 : Int32) := by
      show nI (jsn D) < nI 8
      rw [kn_lt (by omega) (by omega)]; omega
    have hne : ¬ nI (jsn D) = (8 : Int32) := fun w => h8 ((kn_eq (a := jsn D) (b := 8) (by omega) (by omega)).mp w)
    have eb : (if kj_z a3 = 0 then (0 : Int32) else 1) = (if (!(decide (a3 = 0))) = true then 1 else 0) := by
      unfold kj_z
      by_cases w : a3 = 0
      · simp [w]
      · simp [w]
    let S := jss (q t) (!(decide (a3 = 0)))
    let B : Int32 := if (!(decide (a3 = 0))) = true then 1 else 0
    let G1 := kg_i (kg_a (kg_a G 8 ((G.2.1 8).set (jsn D) (nI p))) 9 ((G.2.1 9).set (jsn D) S)) 3 13 (nI (jsn D + 1))
    let X1 := (G.2.1 38).set (3 * jsn D) (nI p)
    let X2 := X1.set (3 * jsn D + 1) (nI t)
    let X3 := X2.set (3 * jsn D + 2) B
    have lx1 : X1.length = 24 := by show ((G.2.1 38).set _ _).length = 24; rw [List.length_set, l38]
    have lx2 : X2.length = 24 := by show (X1.set _ _).length = 24; rw [List.length_set, lx1]
    refine ⟨nI (jsn D + 1), G1, kg_i (kg_a (kg_a (kg_a G1 38 X1) 38 X2) 38 X3) 28 23 (nI (jsn D + 1)), ?_, ?_, ?_, kj_refl _⟩
    · show fX10_see G (nI p) (nI t) (kj_z a3) = _
      rw [ex]
      unfold fX10_see_55 fX9_addSeen
      rw [c5, if_pos hlt, kn_p (by omega) (by omega), Option.bind_some, kn_p (by omega) (by omega), kn_succ]; rfl
    · show fX11_see G1 (nI p) (nI t) (kj_z a3) = _
      have hM1 : jM kN G1 T np q D := jM_of hM' (jLn_i (jLn_a (jLn_a hL (jLn_set hL (by decide))) (jLn_set hL (by decide)))) (fun _ => rfl) (by simp [G1, kg_i, kg_a])
      have g1 : G1.1 28 23 = nI (jsn D) := m4'
      have g2 : G1.2.1 38 = G.2.1 38 := rfl
      have key : ∀ b : Int32, fX11_see_78 (kg_a (kg_a G1 38 X1) 38 X2) (nI (3 * jsn D + 2)) b = some (nI (jsn D + 1), kg_i (kg_a (kg_a (kg_a G1 38 X1) 38 X2) 38 (X2.set (3 * jsn D + 2) b)) 28 23 (nI (jsn D + 1))) := by
        intro b
        unfold fX11_see_78
        have g3 : (kg_a (kg_a G1 38 X1) 38 X2).2.1 38 = X2 := rfl
        have g4 : (kg_a (kg_a G1 38 X1) 38 X2).1 28 23 = nI (jsn D) := m4'
        rw [g3, g4, kn_p (by omega) (by omega), kn_succ]; rfl
      unfold fX11_see
      rw [m_isPerson hM1, if_pos z1, m_isTrick hM1, if_pos z2, g1, g2]
      simp only [Option.bind_some]
      rw [if_neg (by decide), if_neg (by decide), if_neg hne, kn_3, kn_succ, kn_p2, kn_p (by omega) (by omega), Option.bind_some]
      show ((kv_p X1 (nI (3 * jsn D + 1)) (nI t)).bind fun v4 => _) = _
      rw [kn_p (by omega) (by omega), Option.bind_some]
      show (if kj_z a3 = 0 then fX11_see_78 (kg_a (kg_a G1 38 X1) 38 X2) (nI (3 * jsn D + 2)) 0 else fX11_see_78 (kg_a (kg_a G1 38 X1) 38 X2) (nI (3 * jsn D + 2)) 1) = _
      rw [key, key]
      show _ = some (nI (jsn D + 1), kg_i (kg_a (kg_a (kg_a G1 38 X1) 38 X2) 38 (X2.set (3 * jsn D + 2) B)) 28 23 (nI (jsn D + 1)))
      show _ = some (nI (jsn D + 1), kg_i (kg_a (kg_a (kg_a G1 38 X1) 38 X2) 38 (X2.set (3 * jsn D + 2) (if (!(decide (a3 = 0))) = true then 1 else 0))) 28 23 (nI (jsn D + 1)))
      rw [← eb]
      split <;> rfl
    · refine jJ_F (D := (jk D, jst D, jtw D, jhd D, jcs D, jit D, jsn D + 1, fun i => if i = jsn D then (p, t, !(decide (a3 = 0))) else jsg D i)) ?_ hP hA hN hU hB hR hK ?_ ⟨c1, c2, c3, ?_, rfl, ?_⟩ ⟨m1, m2, ?_, rfl, ?_⟩ ⟨v1, v2, v3, v4, v5, by show jsn D + 1 ≤ 8; omega, ?_⟩
      · refine jLn_i (jLn_a (jLn_a (jLn_a (jLn_i (jLn_a (jLn_a hL (jLn_set hL (by decide))) (jLn_set hL (by decide)))) lx1) lx2) ?_)
        show (X2.set _ _).length = 24
        rw [List.length_set, lx2]
      · refine ⟨?_, ?_, fun _ => rfl, fun _ => rfl, fun _ => rfl, rfl⟩ <;> simp [G1, kg_i, kg_a]
      · exact j712 (c4 7 (by omega) (by omega)) (c4 8 (by omega) (by omega)) (c4 9 (by omega) (by omega)) (c4 10 (by omega) (by omega)) (c4 11 (by omega) (by omega)) (c4 12 (by omega) (by omega))
      · intro i hi
        have hi' : i < jsn D + 1 := hi
        show ((G.2.1 8).set (jsn D) (nI p)).getD i 0 = nI (if i = jsn D then (p, t, !(decide (a3 = 0))) else jsg D i).1 ∧ ((G.2.1 9).set (jsn D) S).getD i 0 = jss (q (if i = jsn D then (p, t, !(decide (a3 = 0))) else jsg D i).2.1) (if i = jsn D then (p, t, !(decide (a3 = 0))) else jsg D i).2.2
        rw [getD_set (by omega), getD_set (by omega)]
        by_cases w : i = jsn D
        · rw [if_pos w, if_pos w, if_pos w]; exact ⟨rfl, rfl⟩
        · rw [if_neg w, if_neg w, if_neg w]; exact c6 i (by omega)
      · exact j712 (m3 7 (by omega) (by omega)) (m3 8 (by omega) (by omega)) (m3 9 (by omega) (by omega)) (m3 10 (by omega) (by omega)) (m3 11 (by omega) (by omega)) (m3 12 (by omega) (by omega))
      · intro i hi
        have hi' : i < jsn D + 1 := hi
        have w : ∀ r, X3.getD r 0 = if r = 3 * jsn D + 2 then B else if r = 3 * jsn D + 1 then nI t else if r = 3 * jsn D then nI p else (G.2.1 38).getD r 0 := by
          intro r
          show (X2.set (3 * jsn D + 2) B).getD r 0 = _
          rw [getD_set (by omega)]
          show (if r = 3 * jsn D + 2 then B else (X1.set (3 * jsn D + 1) (nI t)).getD r 0) = _
          rw [getD_set (by omega)]
          show (if r = 3 * jsn D + 2 then B else if r = 3 * jsn D + 1 then nI t else ((G.2.1 38).set (3 * jsn D) (nI p)).getD r 0) = _
          rw [getD_set (by omega)]
        show X3.getD (3 * i) 0 = nI (if i = jsn D then (p, t, !(decide (a3 = 0))) else jsg D i).1 ∧ X3.getD (3 * i + 1) 0 = nI (if i = jsn D then (p, t, !(decide (a3 = 0))) else jsg D i).2.1 ∧ X3.getD (3 * i + 2) 0 = (if (if i = jsn D then (p, t, !(decide (a3 = 0))) else jsg D i).2.2 then 1 else 0)
        by_cases y : i = jsn D
        · rw [y, if_pos rfl, w (3 * jsn D), w (3 * jsn D + 1), w (3 * jsn D + 2)]
          refine ⟨?_, ?_, ?_⟩
          · rw [if_neg (by omega), if_neg (by omega), if_pos rfl]
          · rw [if_neg (by omega), if_pos rfl]
          · rw [if_pos rfl]
        · rw [if_neg y, w (3 * i), w (3 * i + 1), w (3 * i + 2)]
          have m := m5 i (by omega)
          refine ⟨?_, ?_, ?_⟩
          · rw [if_neg (by omega), if_neg (by omega), if_neg (by omega)]; exact m.1
          · rw [if_neg (by omega), if_neg (by omega), if_neg (by omega)]; exact m.2.1
          · rw [if_neg (by omega), if_neg (by omega), if_neg (by omega)]; exact m.2.2
      · intro i hi
        have hi' : i < jsn D + 1 := hi
        show (if i = jsn D then (p, t, !(decide (a3 = 0))) else jsg D i).1 < np ∧ (if i = jsn D then (p, t, !(decide (a3 = 0))) else jsg D i).2.1 < T
        by_cases y : i = jsn D
        · rw [if_pos y]; exact ⟨hp, ht⟩
        · rw [if_neg y]; exact v7 i (by omega)
