/-! SMALL ORDERS: letter, blank, forget, move -/
theorem jLn_i {G : kg_G} {a k : Nat} {v : Int32} (h : jLn G) : jLn (kg_i G a k v) := h
theorem jLn_a {G : kg_G} {a : Nat} {xs : List Int32} (h : jLn G) (hl : xs.length = jLen a) : jLn (kg_a G a xs) := by
  intro b hb
  show (if b = a then xs else G.2.1 b).length = _
  split
  · rename_i e; rw [e]; exact hl
  · exact h b hb
theorem jLn_set {G : kg_G} {a i : Nat} {v : Int32} (h : jLn G) (ha : a ∈ kg_arrs) : ((G.2.1 a).set i v).length = jLen a := by rw [List.length_set]; exact h a ha
theorem jJ_N {k : Nat} {G G2 : kg_G} (h : jN k G) (e0 : ∀ j, 6 ≤ j → j ≤ 10 → G2.1 0 j = G.1 0 j := by intros; rfl) (e1 : ∀ j, j = 11 ∨ j = 30 ∨ j = 15 ∨ j = 21 ∨ j = 22 → G2.1 28 j = G.1 28 j := by intro j hj; rcases hj with h | h | h | h | h <;> subst h <;> rfl) : jN (k + 1) G2 := by
  obtain ⟨⟨r, hr, n1, n2, n3⟩, n4, n5, n6⟩ := h
  unfold jN
  rw [e0 6 (by omega) (by omega), e0 7 (by omega) (by omega), e0 8 (by omega) (by omega), e0 9 (by omega) (by omega), e0 10 (by omega) (by omega), e1 11 (by simp), e1 30 (by simp), e1 15 (by simp), e1 21 (by simp), e1 22 (by simp)]
  exact ⟨⟨r, by omega, n1, n2, n3⟩, n4, n5, n6⟩
theorem op_blank : kj_op jJ (fun G => kjx_blank G) (fun G => kjm_blank G) := by
  intro k G hk hJ
  obtain ⟨hL, hP, hA, hN, T, np, q, D, hU, hB, hR, hC, hM, hV, hK⟩ := hJ
  refine ⟨G.1 28 1, kg_i G 1 1 0, kg_i (kg_i G 1 1 0) 28 1 0, ?_, rfl, ?_, kj_refl _⟩
  · show some (fX10_blank G) = _
    unfold fX10_blank
    rw [hP.2.1]
  · refine ⟨hL, ⟨hP.1, rfl, 0, by omega, rfl, fun i hi => by omega⟩, hA, (jJ_N hN), T, np, q, D, hU, hB, hR, hC, hM, hV, hK⟩
theorem op_forget : kj_op jJ (fun G => kjx_forget G) (fun G => kjm_forget G) := by
  intro k G hk hJ
  obtain ⟨hL, hP, hA, hN, T, np, q, D, hU, hB, hR, hC, hM, hV, hK⟩ := hJ
  refine ⟨G.1 28 23, kg_i G 3 13 0, kg_i (kg_i G 3 13 0) 28 23 0, ?_, rfl, ?_, kj_refl _⟩
  · show some (fX10_forget G) = _
    unfold fX10_forget
    rw [hC.2.2.2.2.1, show G.1 28 23 = _ from hM.2.2.2.1]
  · obtain ⟨c1, c2, c3, c4, c5, c6⟩ := hC
    obtain ⟨m1, m2, m3, m4, m5⟩ := hM
    obtain ⟨v1, v2, v3, v4, v5, v6, v7⟩ := hV
    refine ⟨hL, hP, hA, jJ_N hN, T, np, q, (jk D, jst D, jtw D, jhd D, jcs D, jit D, 0, jsg D), hU, hB, hR, ⟨c1, c2, c3, ?_, rfl, fun i hi => absurd hi (Nat.not_lt_zero _)⟩, ⟨m1, m2, ?_, rfl, fun i hi => absurd hi (Nat.not_lt_zero _)⟩, ⟨v1, v2, v3, v4, v5, Nat.zero_le _, fun i hi => absurd hi (Nat.not_lt_zero _)⟩, ?_⟩
    · intro j h1 h2
      show (if (3 : Nat) = 28 then _ else (if (3 : Nat) = 3 then (if j = 13 then (0 : Int32) else G.1 3 j) else _)) = _
      rw [if_neg (by omega), if_pos rfl, if_neg (by omega)]
      exact c4 j h1 h2
    · intro j h1 h2
      show (if (28 : Nat) = 28 then (if jmc j = 23 then (0 : Int32) else (if (28 : Nat) = 3 then _ else G.1 28 (jmc j))) else _) = _
      rw [if_pos rfl, if_neg (by unfold jmc; split <;> omega), if_neg (by omega)]
      exact m3 j h1 h2
    · intro h
      obtain ⟨D', k1, k2, k3⟩ := hK h
      refine ⟨D', k1, ⟨k2.1, k2.2.1, ?_, k2.2.2.2.1, k2.2.2.2.2⟩, k3⟩
      intro j h1 h2
      show (if (28 : Nat) = 28 then (if jmk j = 23 then (0 : Int32) else (if (28 : Nat) = 3 then _ else G.1 28 (jmk j))) else _) = _
      rw [if_pos rfl, if_neg (by unfold jmk; omega), if_neg (by omega)]
      exact k2.2.2.1 j h1 h2
theorem k_move : ∀ w, w < 6 → fJ9_floorMod_7cf53 (nI w - 1) 6 = some (nI ((w + 5) % 6)) ∧ fJ9_floorMod_7cf53 (nI w + 1) 6 = some (nI ((w + 1) % 6)) ∧ (nI w + 5) - (nI w + 5) / 6 * 6 = nI ((w + 5) % 6) ∧ (nI w + 1) - (nI w + 1) / 6 * 6 = nI ((w + 1) % 6) := by decide +kernel
