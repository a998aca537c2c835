/-! LET GO -/
theorem kt_sub2 : ∀ m, m < 32 → ∀ k, k < 32 → ∀ p, p < 5 → m &&& k = m → (m &&& (31 - 2 ^ p)) &&& (k &&& (31 - 2 ^ p)) = m &&& (31 - 2 ^ p) := by decide +kernel
theorem x_leave {G : kg_G} {p : Nat} (hL : jLn G) : fX9_leave kN G (nI p) = some (kg_i (kg_a (kg_i G 3 6 ((G.1 3 6) &&& ((1 <<< (nI p &&& 31)) ^^^ (-1)))) 7 (kmap (fun _ v => v &&& ((1 <<< (nI p &&& 31)) ^^^ (-1))) 5 (G.2.1 7))) 3 12 (G.1 3 12 + 1)) := by
  refine kl_map (fun n b g i => fX9_leave_16 kN n g (nI p) i) 7 (kg_i G 3 6 ((G.1 3 6) &&& ((1 <<< (nI p &&& 31)) ^^^ (-1)))) (fun _ v => v &&& ((1 <<< (nI p &&& 31)) ^^^ (-1))) (fun _ _ b => b) 5 (fun _ g => some (kg_i g 3 12 (g.1 3 12 + 1))) (by decide) (jLn_i hL) (by decide) (n := kN) (c := 0) (by have := kN_gt; omega) ?_ ?_
  · intro n b xs hx; rfl
  · intro n b xs j hj hx hg
    generalize hG0 : kg_i G 3 6 ((G.1 3 6) &&& ((1 <<< (nI p &&& 31)) ^^^ (-1))) = G0 at hg ⊢
    show fX9_leave_16 kN (n + 1) (kg_a G0 7 xs) (nI p) (nI j) = fX9_leave_16 kN n _ (nI p) (nI (j + 1))
    have q1 : ¬ (5 : Int32) ≤ nI j := m_loop (m := 5) (by omega) hj
    rw [fX9_leave_16, if_neg q1, kv_ga hx hj (by decide), Option.bind_some, kv_pa hx hj (by decide), Option.bind_some, kg_aa, hg, kn_succ]
theorem op_letGo : ∀ (a1 : Int32), kj_op jJ (fun G => kjx_letGo G a1) (fun G => kjm_letGo G a1) := by
  intro a1 k G hk hJ
  have hJ' := hJ
  obtain ⟨hL, hP, hA, hN, T, np, q, D, hU, hB, hR, hC, hM, hV, hK⟩ := hJ
  have hX' : jX kN G T np q D := ⟨hL, hU, hB, hC, hV, kN_gt⟩
  have hM' : jM kN G T np q D := ⟨hL, hU, hR, hM, hV, kN_gt⟩
  have h5 := hU.1
  have h6 := hU.2.1
  by_cases z1 : jin a1 np = true
  rotate_left
  · refine ⟨-101, G, G, ?_, ?_, jJ_m k G hJ', kj_refl _⟩
    · show fX10_letGo kN G a1 = _
      unfold fX10_letGo
      rw [x_isNumber hX', if_neg z1]; rfl
    · show fX11_letGo kN G a1 = _
      unfold fX11_letGo
      rw [m_isPerson hM', if_neg z1]; rfl
  obtain ⟨p, hp, rfl⟩ := jin_of z1 (by omega)
  by_cases y : (jk D).testBit p = true
  rotate_left
  · refine ⟨-103, G, G, ?_, ?_, jJ_m k G hJ', kj_refl _⟩
    · show fX10_letGo kN G (nI p) = _
      unfold fX10_letGo
      rw [x_isNumber hX', if_pos z1, Option.bind_some, if_neg (by decide), x_has hX' (by omega), if_neg y, if_pos rfl]
    · show fX11_letGo kN G (nI p) = _
      unfold fX11_letGo
      rw [m_isPerson hM', if_pos z1, Option.bind_some, if_neg (by decide), m_isKept hM' hp, if_neg y]; rfl
  have e7 : G.1 3 7 = jit D 7 := hC.2.2.2.1 7 (by omega) (by omega)
  have e5 : G.1 28 5 = jit D 7 := hM.2.2.1 7 (by omega) (by omega)
  by_cases z : jtw D p = jit D 7
  rotate_left
  · refine ⟨-103, G, G, ?_, ?_, jJ_m k G hJ', kj_refl _⟩
    · show fX10_letGo kN G (nI p) = _
      unfold fX10_letGo
      rw [x_isNumber hX', if_pos z1, Option.bind_some, if_neg (by decide), x_has hX' (by omega), if_pos y, if_neg (by decide), xt_g hX' (by omega) y, Option.bind_some, e7, if_neg z]
    · show fX11_letGo kN G (nI p) = _
      unfold fX11_letGo
      rw [m_isPerson hM', if_pos z1, Option.bind_some, if_neg (by decide), m_isKept hM' hp, if_pos y, Option.bind_some, if_neg (by decide), mf_1 hM' hp, if_pos y, Option.bind_some, e5, if_neg z]
  have hk32 := jk32 hV hU
  have e12 : G.1 3 12 = jit D 12 := hC.2.2.2.1 12 (by omega) (by omega)
  have e10 : G.1 28 10 = jit D 12 := hM.2.2.1 12 (by omega) (by omega)
  have hV' := hV
  obtain ⟨c1, c2, c3, c4, c5, c6⟩ := hC
  obtain ⟨m1, m2, m3, m4, m5⟩ := hM
  obtain ⟨v1, v2, v3, v4, v5, v6, v7⟩ := hV
  have l7 : (G.2.1 7).length = 5 := hL 7 (by decide)
  have l31 : (G.2.1 31).length = 15 := hL 31 (by decide)
  have l32 : (G.2.1 32).length = 5 := hL 32 (by decide)
  have han := kb_and _ hk32 p (show p < 5 by omega)
  let g : Nat → Int32 → Int32 := fun _ v => v &&& ((1 <<< (nI p &&& 31)) ^^^ (-1))
  let xs := kmap g 5 (G.2.1 7)
  let ys := kmap g T (G.2.1 32)
  have lx : xs.length = 5 := by show (kmap _ _ _).length = 5; rw [kmap_len, l7]
  have ly : ys.length = 5 := by show (kmap _ _ _).length = 5; rw [kmap_len, l32]
  let G1 := kg_i (kg_a (kg_i G 3 6 (nI (jk D &&& (31 - 2 ^ p)))) 7 xs) 3 12 (jit D 12 + 1)
  let X1 := (G.2.1 31).set (3 * p) (-1)
  let X2 := X1.set (3 * p + 1) (-1)
  let X3 := X2.set (3 * p + 2) 0
  have lx1 : X1.length = 15 := by show ((G.2.1 31).set _ _).length = 15; rw [List.length_set, l31]
  have lx2 : X2.length = 15 := by show (X1.set _ _).length = 15; rw [List.length_set, lx1]
  have lx3 : X3.length = 15 := by show (X2.set _ _).length = 15; rw [List.length_set, lx2]
  let G2 := kg_i (kg_a (kg_a (kg_a (kg_a G1 32 ys) 31 X1) 31 X2) 31 X3) 28 10 (jit D 12 + 1)
  let D2 : jD := (jk D &&& (31 - 2 ^ p), jst D, jtw D, jhd D, fun t => jcs D t &&& (31 - 2 ^ p), fun j => if j = 12 then jit D 12 + 1 else jit D j, jsn D, jsg D)
  have gX3 : ∀ r, X3.getD r 0 = if r = 3 * p + 2 then 0 else if r = 3 * p + 1 then -1 else if r = 3 * p then -1 else (G.2.1 31).getD r 0 := by
    intro r
    show (X2.set (3 * p + 2) 0).getD r 0 = _
    rw [getD_set (by omega)]
    show (if r = 3 * p + 2 then 0 else (X1.set (3 * p + 1) (-1)).getD r 0) = _
    rw [getD_set (by omega)]
    show (if r = 3 * p + 2 then 0 else if r = 3 * p + 1 then -1 else ((G.2.1 31).set (3 * p) (-1)).getD r 0) = _
    rw [getD_set (by omega)]
  have hL1 : jLn G1 := jLn_i (jLn_a (jLn_i hL) lx)
  have hL2 : jLn G2 := jLn_i (jLn_a (jLn_a (jLn_a (jLn_a hL1 ly) lx1) lx2) lx3)
  have hC2 : jTC G2 q 3 D2 := by
    refine ⟨rfl, ?_, ?_, j712 (c4 7 (by omega) (by omega)) (c4 8 (by omega) (by omega)) (c4 9 (by omega) (by omega)) (c4 10 (by omega) (by omega)) (c4 11 (by omega) (by omega)) rfl, c5, c6⟩
    · intro r hr hb
      have hb' : (jk D &&& (31 - 2 ^ p)).testBit r = true := hb
      rw [kt_and _ hk32 p (by omega) r hr, Bool.and_eq_true] at hb'
      exact c2 r hr hb'.1
    · intro t ht
      show (kmap g 5 (G.2.1 7)).getD t 0 = nI (jcs D t &&& (31 - 2 ^ p)) ∧ fJ6_bitCount_0f7a4 (nI (jcs D t &&& (31 - 2 ^ p))) ≤ tk_crew (q t)
      refine ⟨?_, Int32.le_trans (kb_bc_and _ (v3 t ht).1 p (by omega)) (c3 t ht).2⟩
      rw [kmap_get _ _ 5 t (by omega), if_pos ht]
      show (G.2.1 7).getD t 0 &&& _ = _
      rw [show (G.2.1 7).getD t 0 = nI (jcs D t) from (c3 t ht).1]
      exact (kb_and _ (v3 t ht).1 p (by omega)).1
  have hM2 : jTM G2 T np 31 32 38 jmc D2 := by
    refine ⟨?_, ?_, j712 (m3 7 (by omega) (by omega)) (m3 8 (by omega) (by omega)) (m3 9 (by omega) (by omega)) (m3 10 (by omega) (by omega)) (m3 11 (by omega) (by omega)) rfl, m4, m5⟩
    · intro r hr
      have hr5 : r < 5 := by omega
      show X3.getD (3 * r) 0 = (if (jk D &&& (31 - 2 ^ p)).testBit r then jst D r else -1) ∧ X3.getD (3 * r + 1) 0 = (if (jk D &&& (31 - 2 ^ p)).testBit r then jtw D r else -1) ∧ X3.getD (3 * r + 2) 0 = (if (jk D &&& (31 - 2 ^ p)).testBit r then jhd D r else 0)
      rw [kt_and _ hk32 p (by omega) r hr5, gX3 (3 * r), gX3 (3 * r + 1), gX3 (3 * r + 2)]
      by_cases x : r = p
      · have dx : ¬ ((jk D).testBit r && !(decide (r = p))) = true := by simp [x]
        rw [if_neg dx, if_neg dx, if_neg dx]
        refine ⟨?_, ?_, ?_⟩
        · rw [if_neg (by omega), if_neg (by omega), if_pos (by omega)]
        · rw [if_neg (by omega), if_pos (by omega)]
        · rw [if_pos (by omega)]
      · have dx : ((jk D).testBit r && !(decide (r = p))) = (jk D).testBit r := by simp [x]
        rw [dx]
        refine ⟨?_, ?_, ?_⟩
        · rw [if_neg (by omega), if_neg (by omega), if_neg (by omega)]; exact (m1 r hr).1
        · rw [if_neg (by omega), if_neg (by omega), if_neg (by omega)]; exact (m1 r hr).2.1
        · rw [if_neg (by omega), if_neg (by omega), if_neg (by omega)]; exact (m1 r hr).2.2
    · intro t ht
      show (kmap g T (G.2.1 32)).getD t 0 = nI (jcs D t &&& (31 - 2 ^ p))
      rw [kmap_get _ _ T t (by omega), if_pos ht]
      show (G.2.1 32).getD t 0 &&& _ = _
      rw [show (G.2.1 32).getD t 0 = nI (jcs D t) from m2 t ht]
      exact (kb_and _ (v3 t (by omega)).1 p (by omega)).1
  have hV2 : jV T np D2 := by
    refine ⟨kt_lt2 np (by omega) _ v1 p (by omega), ?_, ?_, v4, v5, v6, v7⟩
    · intro r hr hb
      have hb' : (jk D &&& (31 - 2 ^ p)).testBit r = true := hb
      rw [kt_and _ hk32 p (by omega) r hr, Bool.and_eq_true] at hb'
      exact v2 r hr hb'.1
    · intro t ht
      refine ⟨(kb_and _ (v3 t ht).1 p (by omega)).2, kt_sub2 _ (v3 t ht).1 _ hk32 p (by omega) (v3 t ht).2.1, fun x => ?_⟩
      show jcs D t &&& (31 - 2 ^ p) = 0
      rw [(v3 t ht).2.2 x]; simp
  have hF : jF G G2 := by
    refine ⟨?_, ?_, fun _ => rfl, fun _ => rfl, fun _ => rfl, rfl⟩ <;> simp [G2, G1, kg_i, kg_a]
  refine ⟨fJ6_bitCount_0f7a4 (nI (jk D &&& (31 - 2 ^ p))), G1, G2, ?_, ?_, jJ_F hL2 hP hA hN hU hB hR hK hF hC2 hM2 hV2, kj_refl _⟩
  · show fX10_letGo kN G (nI p) = _
    unfold fX10_letGo
    rw [x_isNumber hX', if_pos z1, Option.bind_some, if_neg (by decide), x_has hX' (by omega), if_pos y, if_neg (by decide), xt_g hX' (by omega) y, Option.bind_some, e7, if_pos z, x_leave hL, Option.bind_some, c1, han.1, e12]
    rfl
  · have hMM : jM kN G2 T np q D2 := ⟨hL2, hU, jR_of hR rfl rfl rfl, hM2, hV2, kN_gt⟩
    have hM1 : jM kN G1 T np q D := jM_of hM' hL1 (fun _ => rfl) (by simp [G1, kg_i, kg_a])
    show fX11_letGo kN G1 (nI p) = _
    have g31 : G1.2.1 31 = G.2.1 31 := rfl
    have g5 : G1.1 28 5 = jit D 7 := e5
    unfold fX11_letGo
    rw [m_isPerson hM1, if_pos z1, Option.bind_some, if_neg (by decide), m_isKept hM1 hp, if_pos y, Option.bind_some, if_neg (by decide), mf_1 hM1 hp, if_pos y, Option.bind_some, g5, if_pos z]
    refine Eq.trans (kl_map (fun n b g i => fX11_letGo_41 kN n g (nI p) i) 32 G1 g (fun _ _ b => b) T (fun _ gg => (fX11_letGo_41 kN 1 gg (nI p) (nI T))) (by decide) hL1 (by show T ≤ 5; omega) (n := kN) (c := 0) (by have := kN_gt; omega) ?_ ?_) ?_
    · intro n b zs hz
      show fX11_letGo_41 kN (n + 1) (kg_a G1 32 zs) (nI p) (nI T) = fX11_letGo_41 kN (0 + 1) (kg_a G1 32 zs) (nI p) (nI T)
      have gT : (kg_a G1 32 zs).1 28 3 = nI T := hM'.2.2.1.1
      rw [fX11_letGo_41, fX11_letGo_41, gT, if_pos (by rw [kn_le (by omega) (by omega)]; omega), if_pos (by rw [kn_le (by omega) (by omega)]; omega)]
    · intro n b zs j hj hz hg
      show fX11_letGo_41 kN (n + 1) (kg_a G1 32 zs) (nI p) (nI j) = fX11_letGo_41 kN n (kg_a G1 32 (zs.set j (g j (kA G1 32 j)))) (nI p) (nI (j + 1))
      have gT : (kg_a G1 32 zs).1 28 3 = nI T := hM'.2.2.1.1
      have hl : jLen 32 = 5 := rfl
      rw [fX11_letGo_41, gT, if_neg (m_loop (by omega) hj), kv_ga hz (by omega) (by decide), Option.bind_some, kv_pa hz (by omega) (by decide), Option.bind_some, kg_aa, hg, kn_succ]
    · show fX11_letGo_41 kN (0 + 1) (kg_a G1 32 ys) (nI p) (nI T) = _
      have gT : (kg_a G1 32 ys).1 28 3 = nI T := hM'.2.2.1.1
      have g31' : (kg_a G1 32 ys).2.1 31 = G.2.1 31 := rfl
      have g10 : (kg_a G1 32 ys).1 28 10 = jit D 12 := e10
      rw [fX11_letGo_41, gT, if_pos (by rw [kn_le (by omega) (by omega)]; omega), g31', g10, kn_3, kn_succ, kn_p2, kn_p (by omega) (by omega), Option.bind_some]
      show ((kv_p X1 (nI (3 * p + 1)) (-1)).bind _) = _
      rw [kn_p (by omega) (by omega), Option.bind_some]
      show ((kv_p X2 (nI (3 * p + 2)) 0).bind _) = _
      rw [kn_p (by omega) (by omega), Option.bind_some]
      show ((fX11_keptSet kN G2).bind fun v7 => (fX11_ones kN v7).bind fun v8 => some (v8, G2)) = _
      rw [m_keptSet hMM, Option.bind_some, m_ones kN_gt (show jk D2 < 32 from han.2)]
      rfl
