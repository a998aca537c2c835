/-! SMALL ORDERS: letter, blank, forget, move -/
theorem jLn_i {G : kg_G} {a k : Nat} {v : Int32} (h : jLn G) : jLn (kg_i G a k v) := h
theorem jLn_a {G : kg_G} {a : Nat} {xs : List Int32} (h : jLn G) (hl : xs.length = jLen a) : jLn (kg_a G a xs) := by
  intro b hb
  show (if b = a then xs else G.2.1 b).length = _
  split
  · rename_i e; rw [e]; exact hl
  · exact h b hb
theorem jLn_set {G : kg_G} {a i : Nat} {v : Int32} (h : jLn G) (ha : a ∈ kg_arrs) : ((G.2.1 a).set i v).length = jLen a := by rw [List.length_set]; exact h a ha
theorem jJ_N {k : Nat} {G G2 : kg_G} (h : jN k G) (e0 : ∀ j, 6 ≤ j → j ≤ 10 → G2.1 0 j = G.1 0 j := by intros; rfl) (e1 : ∀ j, j = 11 ∨ j = 30 ∨ j = 15 ∨ j = 21 ∨ j = 22 → G2.1 28 j = G.1 28 j := by intro j hj; rcases hj with h | h | h | h | h <;> subst h <;> rfl) : jN (k + 1) G2 := by
  obtain ⟨⟨r, hr, n1, n2, n3⟩, n4, n5, n6⟩ := h
  unfold jN
  rw [e0 6 (by omega) (by omega), e0 7 (by omega) (by omega), e0 8 (by omega) (by omega), e0 9 (by omega) (by omega), e0 10 (by omega) (by omega), e1 11 (by simp), e1 30 (by simp), e1 15 (by simp), e1 21 (by simp), e1 22 (by simp)]
  exact ⟨⟨r, by omega, n1, n2, n3⟩, n4, n5, n6⟩
theorem j712 {P : Nat → Prop} (h7 : P 7) (h8 : P 8) (h9 : P 9) (h10 : P 10) (h11 : P 11) (h12 : P 12) : ∀ j, 7 ≤ j → j ≤ 12 → P j := by
  intro j h1 h2
  have : j = 7 ∨ j = 8 ∨ j = 9 ∨ j = 10 ∨ j = 11 ∨ j = 12 := by omega
  rcases this with h | h | h | h | h | h <;> subst h <;> assumption
theorem j713 {P : Nat → Prop} (h7 : P 7) (h8 : P 8) (h9 : P 9) (h10 : P 10) (h11 : P 11) (h12 : P 12) (h13 : P 13) : ∀ j, 7 ≤ j → j ≤ 13 → P j := by
  intro j h1 h2
  have : j = 7 ∨ j = 8 ∨ j = 9 ∨ j = 10 ∨ j = 11 ∨ j = 12 ∨ j = 13 := by omega
  rcases this with h | h | h | h | h | h | h <;> subst h <;> assumption
theorem jTC_of {G G2 : kg_G} {q : Nat → tk_Q} {c : Nat} {D : jD} (h : jTC G q c D) (e1 : ∀ j, 6 ≤ j → j ≤ 13 → G2.1 c j = G.1 c j) (e2 : ∀ a, c + 1 ≤ a → a ≤ c + 6 → G2.2.1 a = G.2.1 a) : jTC G2 q c D := by
  have e3 : ∀ a i, c + 1 ≤ a → a ≤ c + 6 → kA G2 a i = kA G a i := fun a i h1 h2 => by unfold kA; rw [e2 a h1 h2]
  obtain ⟨c1, c2, c3, c4, c5, c6⟩ := h
  refine ⟨by rw [e1 6 (by omega) (by omega)]; exact c1, fun p hp hb => ?_, fun t ht => ?_, fun j h1 h2 => ?_, by rw [e1 13 (by omega) (by omega)]; exact c5, fun i hi => ?_⟩
  · rw [e3 _ _ (by omega) (by omega), e3 _ _ (by omega) (by omega), e3 _ _ (by omega) (by omega)]; exact c2 p hp hb
  · rw [e3 _ _ (by omega) (by omega)]; exact c3 t ht
  · rw [e1 j (by omega) (by omega)]; exact c4 j h1 h2
  · rw [e3 _ _ (by omega) (by omega), e3 _ _ (by omega) (by omega)]; exact c6 i hi
theorem jTM_of {G G2 : kg_G} {T np fo ca si : Nat} {mi : Nat → Nat} {D : jD} (h : jTM G T np fo ca si mi D) (e1 : ∀ j, 7 ≤ j → j ≤ 13 → G2.1 28 (mi j) = G.1 28 (mi j)) (e2 : G2.2.1 fo = G.2.1 fo) (e3 : G2.2.1 ca = G.2.1 ca) (e4 : G2.2.1 si = G.2.1 si) : jTM G2 T np fo ca si mi D := by
  obtain ⟨m1, m2, m3, m4, m5⟩ := h
  unfold kA at m1 m2 m5
  unfold jTM kA
  rw [e2, e3, e4, e1 13 (by omega) (by omega)]
  refine ⟨m1, m2, fun j h1 h2 => ?_, m4, m5⟩
  rw [e1 j (by omega) (by omega)]; exact m3 j h1 h2
/-- what the troupe's orders leave alone -/
def jF (G G2 : kg_G) : Prop := (∀ a ∈ [2, 22, 29, 30, 11, 12, 13, 14, 15, 16, 42, 43, 44], G2.2.1 a = G.2.1 a) ∧ (∀ j ∈ [1, 3, 4, 11, 15, 21, 22, 30, 31, 32, 33, 34, 35, 36, 37], G2.1 28 j = G.1 28 j) ∧ (∀ j, G2.1 0 j = G.1 0 j) ∧ (∀ j, G2.1 1 j = G.1 1 j) ∧ (∀ j, G2.1 10 j = G.1 10 j) ∧ G2.2.2.2 = G.2.2.2
theorem jR_of {G G2 : kg_G} {T np : Nat} {q : Nat → tk_Q} (h : jR G T np q) (e1 : G2.1 28 3 = G.1 28 3) (e2 : G2.1 28 4 = G.1 28 4) (e3 : G2.2.1 30 = G.2.1 30) : jR G2 T np q := by
  unfold jR kA at *
  rw [e1, e2, e3]; exact h
theorem jB_of {G G2 : kg_G} {T np : Nat} {q : Nat → tk_Q} (h : jB G T np q) (e : G2.2.2.2 = G.2.2.2) : jB G2 T np q := by
  unfold jB kg_Y at *
  rw [e]; exact h
theorem jJ_F {k : Nat} {G G2 : kg_G} {T np : Nat} {q : Nat → tk_Q} {D : jD} (hL : jLn G2) (hP : jP G) (hA : G.2.1 22 = kp_T) (hN : jN k G) (hU : jU T np q) (hB : jB G T np q) (hR : jR G T np q) (hK : G.1 0 6 = 1 → ∃ D', jTC G q 10 D' ∧ jTM G T np 42 43 44 jmk D' ∧ jV T np D') (hF : jF G G2) (hC : jTC G2 q 3 D) (hM : jTM G2 T np 31 32 38 jmc D) (hV : jV T np D) : jJ (k + 1) G2 := by
  obtain ⟨f1, f2, f3, f4, f5, f6⟩ := hF
  refine ⟨hL, ?_, ?_, jJ_N hN (fun j _ _ => f3 j) (fun j hj => f2 j ?_), T, np, q, D, hU, jB_of hB f6, jR_of hR (f2 3 (by decide)) (f2 4 (by decide)) (f1 30 (by decide)), hC, hM, hV, ?_⟩
  · unfold jP kA at *
    rw [f1 2 (by decide), f1 29 (by decide), f4 1, f2 1 (by decide)]
    exact hP
  · rw [f1 22 (by decide)]; exact hA
  · rcases hj with h | h | h | h | h <;> subst h <;> decide
  · intro h
    rw [f3 6] at h
    obtain ⟨D', k1, k2, k3⟩ := hK h
    refine ⟨D', jTC_of k1 (fun j _ _ => f5 j) (fun a h1 h2 => f1 a ?_), jTM_of k2 (fun j h1 h2 => f2 (jmk j) ?_) (f1 42 (by decide)) (f1 43 (by decide)) (f1 44 (by decide)), k3⟩
    · have : a = 11 ∨ a = 12 ∨ a = 13 ∨ a = 14 ∨ a = 15 ∨ a = 16 := by omega
      rcases this with h | h | h | h | h | h <;> subst h <;> decide
    · have : j = 7 ∨ j = 8 ∨ j = 9 ∨ j = 10 ∨ j = 11 ∨ j = 12 ∨ j = 13 := by omega
      rcases this with h | h | h | h | h | h | h <;> subst h <;> decide
theorem op_blank : kj_op jJ (fun G => kjx_blank G) (fun G => kjm_blank G) := by
  intro k G hk hJ
  obtain ⟨hL, hP, hA, hN, T, np, q, D, hU, hB, hR, hC, hM, hV, hK⟩ := hJ
  refine ⟨G.1 28 1, kg_i G 1 1 0, kg_i (kg_i G 1 1 0) 28 1 0, ?_, rfl, ?_, kj_refl _⟩
  · show some (fX10_blank G) = _
    unfold fX10_blank
    rw [hP.2.1]
  · refine ⟨hL, ⟨hP.1, rfl, 0, by omega, rfl, fun i hi => by omega⟩, hA, (jJ_N hN), T, np, q, D, hU, hB, hR, jTC_of hC (fun _ _ _ => rfl) (fun _ _ _ => rfl), jTM_of hM (j713 rfl rfl rfl rfl rfl rfl rfl) rfl rfl rfl, hV, ?_⟩
    intro h
    obtain ⟨D', k1, k2, k3⟩ := hK h
    exact ⟨D', jTC_of k1 (fun _ _ _ => rfl) (fun _ _ _ => rfl), jTM_of k2 (j713 rfl rfl rfl rfl rfl rfl rfl) rfl rfl rfl, k3⟩
theorem op_forget : kj_op jJ (fun G => kjx_forget G) (fun G => kjm_forget G) := by
  intro k G hk hJ
  obtain ⟨hL, hP, hA, hN, T, np, q, D, hU, hB, hR, hC, hM, hV, hK⟩ := hJ
  refine ⟨G.1 28 23, kg_i G 3 13 0, kg_i (kg_i G 3 13 0) 28 23 0, ?_, rfl, ?_, kj_refl _⟩
  · show some (fX10_forget G) = _
    unfold fX10_forget
    rw [hC.2.2.2.2.1, show G.1 28 23 = _ from hM.2.2.2.1]
  · obtain ⟨c1, c2, c3, c4, c5, c6⟩ := hC
    obtain ⟨m1, m2, m3, m4, m5⟩ := hM
    obtain ⟨v1, v2, v3, v4, v5, v6, v7⟩ := hV
    refine jJ_F (D := (jk D, jst D, jtw D, jhd D, jcs D, jit D, 0, jsg D)) hL hP hA hN hU hB hR hK ?_ ⟨c1, c2, c3, ?_, rfl, fun i hi => absurd hi (Nat.not_lt_zero _)⟩ ⟨m1, m2, ?_, rfl, fun i hi => absurd hi (Nat.not_lt_zero _)⟩ ⟨v1, v2, v3, v4, v5, Nat.zero_le _, fun i hi => absurd hi (Nat.not_lt_zero _)⟩
    · refine ⟨?_, ?_, fun _ => rfl, fun _ => rfl, fun _ => rfl, rfl⟩ <;> simp [kg_i]
    · exact j712 (c4 7 (by omega) (by omega)) (c4 8 (by omega) (by omega)) (c4 9 (by omega) (by omega)) (c4 10 (by omega) (by omega)) (c4 11 (by omega) (by omega)) (c4 12 (by omega) (by omega))
    · exact j712 (m3 7 (by omega) (by omega)) (m3 8 (by omega) (by omega)) (m3 9 (by omega) (by omega)) (m3 10 (by omega) (by omega)) (m3 11 (by omega) (by omega)) (m3 12 (by omega) (by omega))
theorem k_move : ∀ w, w < 6 → fJ9_floorMod_7cf53 (nI w - 1) 6 = some (nI ((w + 5) % 6)) ∧ fJ9_floorMod_7cf53 (nI w + 1) 6 = some (nI ((w + 1) % 6)) ∧ (nI w + 5) - (nI w + 5) / 6 * 6 = nI ((w + 5) % 6) ∧ (nI w + 1) - (nI w + 1) / 6 * 6 = nI ((w + 1) % 6) := by decide +kernel
theorem op_move : ∀ (a1 : Int32), kj_op jJ (fun G => kjx_move G (kj_z a1)) (fun G => kjm_move G (kj_z a1)) := by
  intro a1 k G hk hJ
  have hJ' := hJ
  obtain ⟨hL, hP, hA, hN, T, np, q, D, hU, hB, hR, hC, hM, hV, hK⟩ := hJ
  have hX' : jX kN G T np q D := ⟨hL, hU, hB, hC, hV, kN_gt⟩
  have hM' : jM kN G T np q D := ⟨hL, hU, hR, hM, hV, kN_gt⟩
  by_cases hT : T = 0
  · refine ⟨-103, G, G, ?_, ?_, jJ_m k G hJ', kj_refl _⟩
    · show fX10_move G (kj_z a1) = _
      unfold fX10_move
      rw [x_hasShow hX', if_pos hT]; rfl
    · show some (fX11_move G (kj_z a1)) = _
      unfold fX11_move
      rw [m_lacks hM', if_pos hT]; rfl
  · obtain ⟨c1, c2, c3, c4, c5, c6⟩ := hC
    obtain ⟨m1, m2, m3, m4, m5⟩ := hM
    obtain ⟨v1, v2, v3, ⟨w, hw, ew⟩, v5, v6, v7⟩ := hV
    have e7 : G.1 3 7 = nI w := (c4 7 (by omega) (by omega)).trans ew
    have e5 : G.1 28 5 = nI w := (m3 7 (by omega) (by omega)).trans ew
    have e8 : G.1 3 10 = jit D 10 := c4 10 (by omega) (by omega)
    have e6 : G.1 28 8 = jit D 10 := m3 10 (by omega) (by omega)
    obtain ⟨k1, k2, k3, k4⟩ := k_move w (by omega)
    have key : ∃ w', w' ≤ 5 ∧ fX10_move G (kj_z a1) = some (nI w', kg_i (kg_i G 3 7 (nI w')) 3 10 (G.1 3 10 + 1)) ∧ ∀ G1 : kg_G, G1.1 28 3 = G.1 28 3 → G1.1 28 5 = G.1 28 5 → fX11_move G1 (kj_z a1) = (nI w', kg_i (kg_i G1 28 5 (nI w')) 28 8 (G1.1 28 8 + 1)) := by
      unfold fX10_move fX11_move kj_z fX10_move_39 fX11_move_24
      rw [x_hasShow hX', if_neg hT]
      by_cases z : a1 = 0
      · refine ⟨(w + 5) % 6, by omega, ?_, ?_⟩
        · rw [e7, if_pos z, if_pos rfl, k1]; rfl
        · intro G1 g1 g2
          unfold fX11_lacks
          rw [g1, m_T hM', if_neg (show ¬ nI T = 0 from fun y => hT ((kn_eq (a := T) (b := 0) (by have := hU.1; omega) (by omega)).mp y)), if_pos rfl, if_pos z, if_pos rfl, g2, e5, k3]
      · refine ⟨(w + 1) % 6, by omega, ?_, ?_⟩
        · rw [e7, if_neg z, if_neg (by decide), k2]; rfl
        · intro G1 g1 g2
          unfold fX11_lacks
          rw [g1, m_T hM', if_neg (show ¬ nI T = 0 from fun y => hT ((kn_eq (a := T) (b := 0) (by have := hU.1; omega) (by omega)).mp y)), if_pos rfl, if_neg z, if_neg (by decide), g2, e5, k4]
    obtain ⟨w', hw', f1, f2⟩ := key
    refine ⟨nI w', _, kg_i (kg_i (kg_i (kg_i G 3 7 (nI w')) 3 10 (G.1 3 10 + 1)) 28 5 (nI w')) 28 8 (G.1 28 8 + 1), f1, ?_, ?_, kj_refl _⟩
    · show some (fX11_move _ (kj_z a1)) = _
      exact congrArg some (f2 (kg_i (kg_i G 3 7 (nI w')) 3 10 (G.1 3 10 + 1)) rfl rfl)
    · refine jJ_F (D := (jk D, jst D, jtw D, jhd D, jcs D, fun j => if j = 7 then nI w' else if j = 10 then jit D 10 + 1 else jit D j, jsn D, jsg D)) hL hP hA hN hU hB hR hK ?_ ⟨c1, c2, c3, ?_, c5, c6⟩ ⟨m1, m2, ?_, m4, m5⟩ ⟨v1, v2, v3, ⟨w', hw', rfl⟩, v5, v6, v7⟩
      · refine ⟨?_, ?_, fun _ => rfl, fun _ => rfl, fun _ => rfl, rfl⟩ <;> simp [kg_i]
      · intro j h1 h2
        have : j = 7 ∨ j = 8 ∨ j = 9 ∨ j = 10 ∨ j = 11 ∨ j = 12 := by omega
        rcases this with h | h | h | h | h | h <;> subst h
        · rfl
        · exact c4 8 (by omega) (by omega)
        · exact c4 9 (by omega) (by omega)
        · show G.1 3 10 + 1 = jit D 10 + 1
          rw [e8]
        · exact c4 11 (by omega) (by omega)
        · exact c4 12 (by omega) (by omega)
      · intro j h1 h2
        have : j = 7 ∨ j = 8 ∨ j = 9 ∨ j = 10 ∨ j = 11 ∨ j = 12 := by omega
        rcases this with h | h | h | h | h | h <;> subst h
        · rfl
        · exact m3 8 (by omega) (by omega)
        · exact m3 9 (by omega) (by omega)
        · show G.1 28 8 + 1 = jit D 10 + 1
          rw [e6]
        · exact m3 11 (by omega) (by omega)
        · exact m3 12 (by omega) (by omega)
