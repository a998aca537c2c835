/-! IMAGE, RESTORE -/
theorem getD_ext {xs ys : List Int32} (hl : xs.length = ys.length) (h : ∀ i, i < xs.length → xs.getD i 0 = ys.getD i 0) : xs = ys := by
  apply List.ext_getElem? 
  intro i
  by_cases hi : i < xs.length
  · have := h i hi
    rw [List.getD_eq_getElem?_getD, List.getD_eq_getElem?_getD, List.getElem?_eq_getElem hi, List.getElem?_eq_getElem (by omega)] at this
    rw [List.getElem?_eq_getElem hi, List.getElem?_eq_getElem (by omega)]
    exact congrArg some this
  · rw [List.getElem?_eq_none (by omega), List.getElem?_eq_none (by omega)]
theorem kg_cpf {xs ys : List Int32} {n : Nat} (hx : xs.length = n) (hy : ys.length = n) (hn : n < 100) : kg_cp xs ys (nI n) = some xs := by
  unfold kg_cp
  rw [if_neg (kn_neg (by omega)), kn_nat (by omega), if_pos (by omega), List.take_of_length_le (by omega), List.drop_of_length_le (by omega), List.append_nil]
theorem m_copy {G : kg_G} {a0 a1 : Nat} (hL : jLn G) (h0 : a0 ∈ kg_arrs) (h1 : a1 ∈ kg_arrs) (hne : a0 ≠ a1) (hl : jLen a0 = jLen a1) (hs : jLen a1 < 90) : fX11_copy kN G a0 a1 = some (kg_a G a1 (G.2.1 a0)) := by
  have l0 := hL a0 h0
  have l1 := hL a1 h1
  have e : kmap (fun j _ => kA G a0 j) (jLen a1) (G.2.1 a1) = G.2.1 a0 := by
    refine getD_ext (by rw [kmap_len]; omega) (fun i hi => ?_)
    rw [kmap_len] at hi
    rw [kmap_get _ _ _ i (by omega), if_pos (by omega)]; rfl
  refine Eq.trans (kl_map (fun n b g i => fX11_copy_2 kN n g a0 a1 i) a1 G (fun j _ => kA G a0 j) (fun _ _ b => b) (jLen a1) (fun _ g => some g) h1 hL (Nat.le_refl _) (n := kN) (c := 0) (by have := kN_gt; omega) ?_ ?_) (by rw [e])
  · intro n b xs hx
    show fX11_copy_2 kN (n + 1) (kg_a G a1 xs) a0 a1 (nI (jLen a1)) = _
    have g : (kg_a G a1 xs).2.1 a0 = G.2.1 a0 := by
      show (if a0 = a1 then xs else G.2.1 a0) = _
      rw [if_neg hne]
    rw [fX11_copy_2]
    unfold kg_le
    rw [if_pos h0, g, Option.bind_some, if_pos (by rw [l0, hl, kn_le (by omega) (by omega)]; omega)]
  · intro n b xs j hj hx hg
    show fX11_copy_2 kN (n + 1) (kg_a G a1 xs) a0 a1 (nI j) = fX11_copy_2 kN n (kg_a G a1 (xs.set j (kA G a0 j))) a0 a1 (nI (j + 1))
    have g : (kg_a G a1 xs).2.1 a0 = G.2.1 a0 := by
      show (if a0 = a1 then xs else G.2.1 a0) = _
      rw [if_neg hne]
    rw [fX11_copy_2]
    unfold kg_le kg_ld kg_sd
    rw [if_pos h0, g, Option.bind_some, if_neg (by rw [l0, hl]; exact m_loop (by omega) hj), if_pos h0, kA_g hL h0 (by omega), Option.bind_some, if_pos h1, kv_pa hx hj (by omega)]
    simp only [Option.map_some, Option.bind_some, kg_aa, kn_succ]
theorem x_cp_10 {G : kg_G} (hL : jLn G) : fX9_copyFrom_10_3 G = some (kg_i (kg_i (kg_i (kg_i (kg_i (kg_i (kg_i (kg_i (kg_a (kg_a (kg_a (kg_a (kg_a (kg_a G 11 (G.2.1 4)) 12 (G.2.1 5)) 13 (G.2.1 6)) 14 (G.2.1 7)) 15 (G.2.1 8)) 16 (G.2.1 9)) 10 6 (G.1 3 6)) 10 7 (G.1 3 7)) 10 8 (G.1 3 8)) 10 9 (G.1 3 9)) 10 10 (G.1 3 10)) 10 11 (G.1 3 11)) 10 12 (G.1 3 12)) 10 13 (G.1 3 13)) := by
  unfold fX9_copyFrom_10_3
  have h5 : (5 : Int32) = nI 5 := rfl
  have h8 : (8 : Int32) = nI 8 := rfl
  rw [h5, h8, kg_cpf (n := 5) (hL 4 (by decide)) (hL 11 (by decide)) (by decide), Option.bind_some, kg_cpf (n := 5) (hL 5 (by decide)) (hL 12 (by decide)) (by decide), Option.bind_some, kg_cpf (n := 5) (hL 6 (by decide)) (hL 13 (by decide)) (by decide), Option.bind_some, kg_cpf (n := 5) (hL 7 (by decide)) (hL 14 (by decide)) (by decide), Option.bind_some, kg_cpf (n := 8) (hL 8 (by decide)) (hL 15 (by decide)) (by decide), Option.bind_some, kg_cpf (n := 8) (hL 9 (by decide)) (hL 16 (by decide)) (by decide), Option.bind_some]
theorem x_cp_3 {G : kg_G} (hL : jLn G) : fX9_copyFrom_3_10 G = some (kg_i (kg_i (kg_i (kg_i (kg_i (kg_i (kg_i (kg_i (kg_a (kg_a (kg_a (kg_a (kg_a (kg_a G 4 (G.2.1 11)) 5 (G.2.1 12)) 6 (G.2.1 13)) 7 (G.2.1 14)) 8 (G.2.1 15)) 9 (G.2.1 16)) 3 6 (G.1 10 6)) 3 7 (G.1 10 7)) 3 8 (G.1 10 8)) 3 9 (G.1 10 9)) 3 10 (G.1 10 10)) 3 11 (G.1 10 11)) 3 12 (G.1 10 12)) 3 13 (G.1 10 13)) := by
  unfold fX9_copyFrom_3_10
  have h5 : (5 : Int32) = nI 5 := rfl
  have h8 : (8 : Int32) = nI 8 := rfl
  rw [h5, h8, kg_cpf (n := 5) (hL 11 (by decide)) (hL 4 (by decide)) (by decide), Option.bind_some, kg_cpf (n := 5) (hL 12 (by decide)) (hL 5 (by decide)) (by decide), Option.bind_some, kg_cpf (n := 5) (hL 13 (by decide)) (hL 6 (by decide)) (by decide), Option.bind_some, kg_cpf (n := 5) (hL 14 (by decide)) (hL 7 (by decide)) (by decide), Option.bind_some, kg_cpf (n := 8) (hL 15 (by decide)) (hL 8 (by decide)) (by decide), Option.bind_some, kg_cpf (n := 8) (hL 16 (by decide)) (hL 9 (by decide)) (by decide), Option.bind_some]
theorem op_image : kj_op jJ (fun G => kjx_image G) (fun G => kjm_image G) := by
  intro k G hk hJ
  have hJ' := hJ
  obtain ⟨hL, hP, hA, hN, T, np, q, D, hU, hB, hR, hC, hM, hV, hK⟩ := hJ
  have hX' : jX kN G T np q D := ⟨hL, hU, hB, hC, hV, kN_gt⟩
  have hM' : jM kN G T np q D := ⟨hL, hU, hR, hM, hV, kN_gt⟩
  by_cases hT : T = 0
  · refine ⟨-103, G, G, ?_, ?_, jJ_m k G hJ', kj_refl _⟩
    · show fX10_image G = _
      unfold fX10_image
      rw [x_hasShow hX', if_pos hT]; rfl
    · show fX11_image kN G = _
      unfold fX11_image
      rw [m_lacks hM', if_pos hT]; rfl
  · let G1 := kg_i (kg_i (kg_i (kg_i (kg_i (kg_i (kg_i (kg_i (kg_i (kg_a (kg_a (kg_a (kg_a (kg_a (kg_a G 11 (G.2.1 4)) 12 (G.2.1 5)) 13 (G.2.1 6)) 14 (G.2.1 7)) 15 (G.2.1 8)) 16 (G.2.1 9)) 10 6 (G.1 3 6)) 10 7 (G.1 3 7)) 10 8 (G.1 3 8)) 10 9 (G.1 3 9)) 10 10 (G.1 3 10)) 10 11 (G.1 3 11)) 10 12 (G.1 3 12)) 10 13 (G.1 3 13)) 0 6 1
    have hL1 : jLn G1 := by
      refine jLn_i (jLn_i (jLn_i (jLn_i (jLn_i (jLn_i (jLn_i (jLn_i (jLn_i (jLn_a (jLn_a (jLn_a (jLn_a (jLn_a (jLn_a hL ?_) ?_) ?_) ?_) ?_) ?_)))))))))
      · exact hL 4 (by decide)
      · exact hL 5 (by decide)
      · exact hL 6 (by decide)
      · exact hL 7 (by decide)
      · exact hL 8 (by decide)
      · exact hL 9 (by decide)
    let H1 := kg_a G1 42 (G.2.1 31)
    let H2 := kg_a H1 43 (G.2.1 32)
    let H3 := kg_a H2 44 (G.2.1 38)
    have hH1 : jLn H1 := jLn_a hL1 (hL 31 (by decide))
    have hH2 : jLn H2 := jLn_a hH1 (hL 32 (by decide))
    have hH3 : jLn H3 := jLn_a hH2 (hL 38 (by decide))
    let G2 := kg_i (kg_i (kg_i (kg_i (kg_i (kg_i (kg_i (kg_i H3 28 31 (G.1 28 5)) 28 32 (G.1 28 6)) 28 33 (G.1 28 7)) 28 34 (G.1 28 8)) 28 35 (G.1 28 9)) 28 36 (G.1 28 10)) 28 37 (G.1 28 23)) 28 30 (G.1 28 11)
    have e8 : G.1 3 8 = G.1 28 6 := (hC.2.2.2.1 8 (by omega) (by omega)).trans (hM.2.2.1 8 (by omega) (by omega)).symm
    refine ⟨G.1 28 6, G1, G2, ?_, ?_, ?_, kj_refl _⟩
    · show fX10_image G = _
      unfold fX10_image
      rw [x_hasShow hX', if_neg hT, Option.bind_some, if_neg (by decide), x_cp_10 hL, Option.bind_some]
      show some (G.1 3 8, G1) = _
      rw [e8]
    · have hM1 : jM kN G1 T np q D := jM_of hM' hL1 (fun _ => rfl) (by simp [G1, kg_i, kg_a])
      show fX11_image kN G1 = _
      unfold fX11_image
      rw [m_lacks hM1, if_neg hT, if_pos rfl, m_copy hL1 (by decide) (by decide) (by decide) (by decide) (by decide), Option.bind_some]
      show ((fX11_copy kN H1 32 43).bind _) = _
      rw [m_copy hH1 (by decide) (by decide) (by decide) (by decide) (by decide), Option.bind_some]
      show ((fX11_copy kN H2 38 44).bind _) = _
      rw [m_copy hH2 (by decide) (by decide) (by decide) (by decide) (by decide), Option.bind_some]
      rfl
    · obtain ⟨c1, c2, c3, c4, c5, c6⟩ := hC
      obtain ⟨m1, m2, m3, m4, m5⟩ := hM
      obtain ⟨⟨r, hr, n1, n2, n3⟩, n4, n5, n6⟩ := hN
      refine ⟨jLn_i (jLn_i (jLn_i (jLn_i (jLn_i (jLn_i (jLn_i (jLn_i hH3))))))), hP, hA, ⟨⟨r, by omega, n1, n2, Or.inl ⟨rfl, n2⟩⟩, n4, n5, n6⟩, T, np, q, D, hU, hB, hR, ⟨c1, c2, c3, c4, c5, c6⟩, ⟨m1, m2, ?_, m4, m5⟩, hV, fun _ => ⟨D, ⟨c1, c2, c3, ?_, c5, c6⟩, ⟨m1, m2, ?_, m4, m5⟩, hV⟩⟩
      · exact j712 (m3 7 (by omega) (by omega)) (m3 8 (by omega) (by omega)) (m3 9 (by omega) (by omega)) (m3 10 (by omega) (by omega)) (m3 11 (by omega) (by omega)) (m3 12 (by omega) (by omega))
      · exact j712 (c4 7 (by omega) (by omega)) (c4 8 (by omega) (by omega)) (c4 9 (by omega) (by omega)) (c4 10 (by omega) (by omega)) (c4 11 (by omega) (by omega)) (c4 12 (by omega) (by omega))
      · exact j712 (m3 7 (by omega) (by omega)) (m3 8 (by omega) (by omega)) (m3 9 (by omega) (by omega)) (m3 10 (by omega) (by omega)) (m3 11 (by omega) (by omega)) (m3 12 (by omega) (by omega))
theorem op_restore : kj_op jJ (fun G => kjx_restore G) (fun G => kjm_restore G) := by
  intro k G hk hJ
  have hJ' := hJ
  obtain ⟨hL, hP, hA, hN, T, np, q, D, hU, hB, hR, hC, hM, hV, hK⟩ := hJ
  obtain ⟨⟨r, hr, n1, n2, n3⟩, n4, n5, n6⟩ := id hN
  rcases n3 with ⟨g1, g2⟩ | ⟨g1, g2⟩
  rotate_left
  · have hne : ¬ G.1 28 30 = G.1 28 11 := by
      rw [n2]
      rcases g2 with g2 | ⟨s, hs, g2⟩
      · rw [g2]
        intro x
        have := kn_neg (n := r) (by omega)
        rw [← x] at this
        exact this (by decide)
      · rw [g2]
        intro x
        have := (kn_eq (a := s) (b := r) (by omega) (by omega)).mp x
        omega
    refine ⟨-103, G, G, ?_, ?_, jJ_m k G hJ', kj_refl _⟩
    · show fX10_restore G = _
      unfold fX10_restore
      rw [if_pos g1]
    · show fX11_restore kN G = _
      unfold fX11_restore
      rw [if_neg hne]
  · obtain ⟨D', k1, k2, k3⟩ := hK g1
    let G1 := kg_i (kg_i (kg_i (kg_i (kg_i (kg_i (kg_i (kg_i (kg_a (kg_a (kg_a (kg_a (kg_a (kg_a G 4 (G.2.1 11)) 5 (G.2.1 12)) 6 (G.2.1 13)) 7 (G.2.1 14)) 8 (G.2.1 15)) 9 (G.2.1 16)) 3 6 (G.1 10 6)) 3 7 (G.1 10 7)) 3 8 (G.1 10 8)) 3 9 (G.1 10 9)) 3 10 (G.1 10 10)) 3 11 (G.1 10 11)) 3 12 (G.1 10 12)) 3 13 (G.1 10 13)
    have hL1 : jLn G1 := by
      refine jLn_i (jLn_i (jLn_i (jLn_i (jLn_i (jLn_i (jLn_i (jLn_i (jLn_a (jLn_a (jLn_a (jLn_a (jLn_a (jLn_a hL ?_) ?_) ?_) ?_) ?_) ?_))))))))
      · exact hL 11 (by decide)
      · exact hL 12 (by decide)
      · exact hL 13 (by decide)
      · exact hL 14 (by decide)
      · exact hL 15 (by decide)
      · exact hL 16 (by decide)
    let H1 := kg_a G1 31 (G.2.1 42)
    let H2 := kg_a H1 32 (G.2.1 43)
    let H3 := kg_a H2 38 (G.2.1 44)
    have hH1 : jLn H1 := jLn_a hL1 (hL 42 (by decide))
    have hH2 : jLn H2 := jLn_a hH1 (hL 43 (by decide))
    have hH3 : jLn H3 := jLn_a hH2 (hL 44 (by decide))
    let G2 := kg_i (kg_i (kg_i (kg_i (kg_i (kg_i (kg_i H3 28 5 (G.1 28 31)) 28 6 (G.1 28 32)) 28 7 (G.1 28 33)) 28 8 (G.1 28 34)) 28 9 (G.1 28 35)) 28 10 (G.1 28 36)) 28 23 (G.1 28 37)
    have e8 : G.1 10 8 = G.1 28 32 := (k1.2.2.2.1 8 (by omega) (by omega)).trans (k2.2.2.1 8 (by omega) (by omega)).symm
    refine ⟨G.1 28 32, G1, G2, ?_, ?_, ?_, kj_refl _⟩
    · show fX10_restore G = _
      unfold fX10_restore
      rw [if_neg (by rw [g1]; decide), x_cp_3 hL, Option.bind_some]
      show some (G.1 10 8, G1) = _
      rw [e8]
    · show fX11_restore kN G1 = _
      unfold fX11_restore
      have he : G1.1 28 30 = G1.1 28 11 := g2.trans n2.symm
      rw [if_pos he, m_copy hL1 (by decide) (by decide) (by decide) (by decide) (by decide), Option.bind_some]
      show ((fX11_copy kN H1 43 32).bind _) = _
      rw [m_copy hH1 (by decide) (by decide) (by decide) (by decide) (by decide), Option.bind_some]
      show ((fX11_copy kN H2 44 38).bind _) = _
      rw [m_copy hH2 (by decide) (by decide) (by decide) (by decide) (by decide), Option.bind_some]
      rfl
    · obtain ⟨c1, c2, c3, c4, c5, c6⟩ := k1
      obtain ⟨m1, m2, m3, m4, m5⟩ := k2
      refine jJ_F (D := D') (jLn_i (jLn_i (jLn_i (jLn_i (jLn_i (jLn_i (jLn_i hH3))))))) hP hA hN hU hB hR hK ?_ ⟨c1, c2, c3, ?_, c5, c6⟩ ⟨m1, m2, ?_, m4, m5⟩ k3
      · refine ⟨?_, ?_, fun _ => rfl, fun _ => rfl, fun _ => rfl, rfl⟩ <;> simp [G2, H3, H2, H1, G1, kg_i, kg_a]
      · exact j712 (c4 7 (by omega) (by omega)) (c4 8 (by omega) (by omega)) (c4 9 (by omega) (by omega)) (c4 10 (by omega) (by omega)) (c4 11 (by omega) (by omega)) (c4 12 (by omega) (by omega))
      · exact j712 (m3 7 (by omega) (by omega)) (m3 8 (by omega) (by omega)) (m3 9 (by omega) (by omega)) (m3 10 (by omega) (by omega)) (m3 11 (by omega) (by omega)) (m3 12 (by omega) (by omega))
