/-! FILL -/
theorem x_fill26 {G : kg_G} (hL : jLn G) (c : Int32) : fX10_fill_26 kN kN G c 0 = some (c, kg_a G 7 (kmap (fun j _ => kA G 18 j) 5 (G.2.1 7))) := by
  have e : kfo (fun j b => (fun _ _ b => b : Nat → Int32 → Int32 → Int32) j (kA G 7 j) b) 5 c = c := rfl
  refine Eq.trans (kl_map (fun n b g i => fX10_fill_26 kN n g b i) 7 G (fun j _ => kA G 18 j) (fun _ _ b => b) 5 (fun b g => some (b, g)) (by decide) hL (by decide) (n := kN) (c := c) (by have := kN_gt; omega) ?_ ?_) (by rw [e])
  · intro n b xs hx; rfl
  · intro n b xs j hj hx hg
    show fX10_fill_26 kN (n + 1) (kg_a G 7 xs) b (nI j) = fX10_fill_26 kN n (kg_a G 7 (xs.set j (kA G 18 j))) b (nI (j + 1))
    have q1 : ¬ (5 : Int32) ≤ nI j := m_loop (m := 5) (by omega) hj
    have g18 : (kg_a G 7 xs).2.1 18 = G.2.1 18 := rfl
    rw [fX10_fill_26, if_neg q1, g18, kA_g hL (by decide) (by show j < 5; omega), Option.bind_some, kv_pa hx hj (by decide), Option.bind_some, kg_aa, kn_succ]
theorem op_fill : kj_op jJ (fun G => kjx_fill G) (fun G => kjm_fill G) := by
  intro k G hk hJ
  have hJ' := hJ
  obtain ⟨hL, hP, hA, hN, T, np, q, D, hU, hB, hR, hC, hM, hV, hK⟩ := hJ
  have hX' : jX kN G T np q D := ⟨hL, hU, hB, hC, hV, kN_gt⟩
  have hM' : jM kN G T np q D := ⟨hL, hU, hR, hM, hV, kN_gt⟩
  have h5 := hU.1
  obtain ⟨_, ⟨a, ha, ha1, ha2⟩, _, _⟩ := id hN
  by_cases hT : T = 0
  · refine ⟨-103, G, G, ?_, ?_, jJ_m k G hJ', kj_refl _⟩
    · show fX10_fill kN G = _
      unfold fX10_fill
      rw [x_hasShow hX', if_pos hT]; rfl
    · show fX11_fill kN G = _
      unfold fX11_fill
      rw [m_lacks hM', if_pos hT]; rfl
  have elt : (nI a < (16 : Int32)) = (a < 16) := kn_lt (a := a) (b := 16) (by omega) (by omega)
  have eeq : (nI a = (16 : Int32)) = (a = 16) := kn_eq (a := a) (b := 16) (by omega) (by omega)
  by_cases h16 : a = 16
  · refine ⟨-103, G, G, ?_, ?_, jJ_m k G hJ', kj_refl _⟩
    · show fX10_fill kN G = _
      unfold fX10_fill
      rw [x_hasShow hX', if_neg hT, Option.bind_some, if_neg (by decide), ha1, if_neg (by rw [elt]; omega)]
    · show fX11_fill kN G = _
      unfold fX11_fill
      rw [m_lacks hM', if_neg hT, if_pos rfl, ha2, if_pos (by rw [eeq]; exact h16)]
  obtain ⟨G1, b1, b2, b3, b4⟩ := b_most (k := k) hX' hM' hA ha1 ha2
  have l7 : (G1.2.1 7).length = 5 := b2.1 7 (by decide)
  let xs := kmap (fun j _ => kA G1 18 j) 5 (G1.2.1 7)
  have lx : xs.length = 5 := by show (kmap _ _ _).length = 5; rw [kmap_len, l7]
  have hx : ∀ t, t < 5 → xs.getD t 0 = nI ((sB T q (jst D) (jk D)).2 t) := by
    intro t ht
    show (kmap (fun j _ => kA G1 18 j) 5 (G1.2.1 7)).getD t 0 = _
    rw [kmap_get _ _ 5 t (by omega), if_pos ht]
    exact b3.2.1 t ht
  have hL7 : jLn (kg_a G1 7 xs) := jLn_a b2.1 lx
  obtain ⟨c1, c2, c3⟩ := b4 (kg_a G1 7 xs) hL7 (fun _ => rfl) (fun x hx => by show (if x = 7 then _ else _) = _; rw [if_neg hx])
  have f28 : ∀ j, G1.1 28 j = G.1 28 j := fun j => b2.2.1 28 j (by decide)
  have hM2 : jM kN (kg_i (kg_a G1 7 xs) 28 15 (nI (a + 1))) T np q D := jM_of2 hM' hL7 (fun j h1 h2 h3 => by
    show (if j = 15 then _ else G1.1 28 j) = _
    rw [if_neg h1, f28]) (fun x hx => by
    have hx' : x = 30 ∨ x = 31 ∨ x = 32 ∨ x = 38 := by simpa using hx
    show (if x = 7 then xs else G1.2.1 x) = _
    rw [if_neg (by omega)]
    exact b2.2.2.2 x (by omega))
  have hkk : jk D &&& jk D = jk D := Nat.and_self _
  have hk32 := jk32 hV hU
  obtain ⟨G2, d1, d2, d3⟩ := m_layMost hM2 kN_big hk32 hkk
  let G3 := kg_a G2 32 (G2.2.1 36)
  have l36 : (G2.2.1 36).length = 5 := d3.1
  have hL3 : jLn G3 := jLn_a d2.1 l36
  have f1 : ∀ x j, x ≠ 17 → G3.1 x j = (kg_i (kg_i G 0 8 (nI (a + 1))) 28 15 (nI (a + 1))).1 x j := by
    intro x j hx
    show G2.1 x j = _
    rw [d2.2.1]
    show (if x = 28 then if j = 15 then nI (a + 1) else G1.1 x j else G1.1 x j) = (if x = 28 then if j = 15 then nI (a + 1) else (kg_i G 0 8 (nI (a + 1))).1 x j else (kg_i G 0 8 (nI (a + 1))).1 x j)
    rw [b2.2.1 x j hx]
  have f2 : G3.2.2 = G.2.2 := d2.2.2.1.trans b2.2.2.1
  have f3 : ∀ x, ¬ (18 ≤ x ∧ x ≤ 21) → ¬ (33 ≤ x ∧ x ≤ 37) → x ≠ 7 → x ≠ 32 → G3.2.1 x = G.2.1 x := by
    intro x h1 h2 h3 h4
    show (if x = 32 then _ else G2.2.1 x) = _
    rw [if_neg h4, d2.2.2.2 x (by omega)]
    show (if x = 7 then _ else G1.2.1 x) = _
    rw [if_neg h3]
    exact b2.2.2.2 x (by omega)
  have g7 : G2.2.1 7 = xs := by
    rw [d2.2.2.2 7 (by omega)]; rfl
  have hrow := fun t => sB_row (T := T) (q := q) (st := jst D) hk32 t
  have hpl : jJ (k + 1) G3 := jJ_plan (x := 8) (y := 15) (v := nI (a + 1)) hP hA hU hB hR hC hM hV hK (Or.inl ⟨rfl, rfl⟩) (jN_most hN (by omega)) hL3 f1 f2 f3 (sB T q (jst D) (jk D)).2 (fun t ht => by
    refine ⟨?_, ?_⟩
    · show (G2.2.1 7).getD t 0 = _
      rw [g7]; exact hx t ht
    · rcases (hrow t).1 with z | ⟨z1, z2, z3, z4⟩
      · rw [z]
        rcases tk_crew12 (q t) with e | e <;> rw [e] <;> decide
      · unfold jdone at z4
        simp only [Bool.and_eq_true, decide_eq_true_eq] at z4
        rw [z4.1.1]; exact Int32.le_refl _) (fun t ht => d3.2 t (by omega)) (fun t ht => by
    refine ⟨?_, ?_, (hrow t).2⟩
    · rcases (hrow t).1 with z | ⟨z1, z2, z3, z4⟩
      · rw [z]; decide
      · exact z2
    · rcases (hrow t).1 with z | ⟨z1, z2, z3, z4⟩
      · rw [z, Nat.zero_and]
      · exact z3)
  have hkj : kj_b G G3 := by
    unfold kj_b kg_Y
    rw [f2]; exact ⟨Nat.le_add_right _ _, Nat.le_add_right _ _⟩
  rw [c3, kn_succ] at c1
  refine ⟨nI (sB T q (jst D) (jk D)).1, kg_a G1 7 xs, G3, ?_, ?_, hpl, hkj⟩
  · show fX10_fill kN G = _
    unfold fX10_fill
    rw [x_hasShow hX', if_neg hT, Option.bind_some, if_neg (by decide), ha1, if_pos (by rw [elt]; omega), b1, Option.bind_some]
    exact x_fill26 b2.1 _
  · show fX11_fill kN (kg_a G1 7 xs) = _
    unfold fX11_fill
    rw [c2, if_neg hT, if_pos rfl, c3, if_neg (by rw [eeq]; exact h16), kn_succ, c1, Option.bind_some, d1, Option.bind_some]
    show ((fX11_copy kN G2 36 32).bind _) = _
    rw [m_copy d2.1 (by decide) (by decide) (by decide) (by decide) (by decide)]; rfl
