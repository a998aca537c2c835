/-! CAST, DROP, CLEAR -/
/-- the state with one cast changed -/
abbrev jDc (D : jD) (f : Nat → Nat) : jD := (jk D, jst D, jtw D, jhd D, f, jit D, jsn D, jsg D)
theorem kb_or_t : ∀ m, m < 32 → ∀ p, p < 5 → nI m ||| (1 <<< (nI p &&& 31)) = nI (m ||| 2 ^ p) := fun m hm p hp => (kb_or m hm p hp).1
theorem kb_or_s : ∀ m, m < 32 → ∀ k, k < 32 → ∀ p, p < 5 → m &&& k = m → k.testBit p = true → (m ||| 2 ^ p) &&& k = m ||| 2 ^ p := by decide +kernel
theorem kb_and_s : ∀ m, m < 32 → ∀ k, k < 32 → ∀ p, p < 5 → m &&& k = m → (m &&& (31 - 2 ^ p)) &&& k = m &&& (31 - 2 ^ p) := by decide +kernel
theorem kb_bc_or : ∀ m, m < 32 → ∀ p, p < 5 → m.testBit p = true ∨ (((1 : Int32) ≤ fJ6_bitCount_0f7a4 (nI m) ∨ fJ6_bitCount_0f7a4 (nI (m ||| 2 ^ p)) ≤ 1) ∧ ((2 : Int32) ≤ fJ6_bitCount_0f7a4 (nI m) ∨ fJ6_bitCount_0f7a4 (nI (m ||| 2 ^ p)) ≤ 2)) := by decide +kernel
theorem i10 : ((1 : Int32) = 0) = False := by decide
theorem i01 : ((0 : Int32) = 1) = False := by decide
theorem kb_bc_and : ∀ m, m < 32 → ∀ p, p < 5 → fJ6_bitCount_0f7a4 (nI (m &&& (31 - 2 ^ p))) ≤ fJ6_bitCount_0f7a4 (nI m) := by decide +kernel
theorem tk_crew12 (q : tk_Q) : tk_crew q = 1 ∨ tk_crew q = 2 := by
  unfold tk_crew; split
  · exact Or.inr rfl
  · split
    · exact Or.inr rfl
    · exact Or.inl rfl
theorem kset_and0 (f g : Nat → Bool) : (nI (kset f 5) &&& nI (kset g 5) = 0) = (nI (kset g 5) &&& nI (kset f 5) = 0) := by rw [Int32.and_comm]
/-- a new row of casts on both sides keeps all -/
theorem jJ_cast {k : Nat} {G : kg_G} {T np : Nat} {q : Nat → tk_Q} {D : jD} (hL : jLn G) (hP : jP G) (hA : G.2.1 22 = kp_T) (hN : jN k G) (hU : jU T np q) (hB : jB G T np q) (hR : jR G T np q) (hC : jTC G q 3 D) (hM : jTM G T np 31 32 38 jmc D) (hV : jV T np D) (hK : G.1 0 6 = 1 → ∃ D', jTC G q 10 D' ∧ jTM G T np 42 43 44 jmk D' ∧ jV T np D') {xs ys : List Int32} (f : Nat → Nat) (hx : xs.length = 5) (hy : ys.length = 5) (ex : ∀ t, t < 5 → xs.getD t 0 = nI (f t) ∧ fJ6_bitCount_0f7a4 (nI (f t)) ≤ tk_crew (q t)) (ey : ∀ t, t < T → ys.getD t 0 = nI (f t)) (hf : ∀ t, t < 5 → f t < 32 ∧ f t &&& jk D = f t ∧ (T ≤ t → f t = 0)) : jJ (k + 1) (kg_a (kg_a G 7 xs) 32 ys) := by
  obtain ⟨c1, c2, c3, c4, c5, c6⟩ := hC
  obtain ⟨m1, m2, m3, m4, m5⟩ := hM
  obtain ⟨v1, v2, v3, v4, v5, v6, v7⟩ := hV
  refine jJ_F (D := jDc D f) (jLn_a (jLn_a hL hx) hy) hP hA hN hU hB hR hK ?_ ⟨c1, c2, ex, c4, c5, c6⟩ ⟨m1, ey, m3, m4, m5⟩ ⟨v1, v2, hf, v4, v5, v6, v7⟩
  refine ⟨?_, ?_, fun _ => rfl, fun _ => rfl, fun _ => rfl, rfl⟩ <;> simp [kg_a]
theorem op_cast : ∀ (a1 a2 : Int32), kj_op jJ (fun G => kjx_cast G a1 a2) (fun G => kjm_cast G a1 a2) := by
  intro a1 a2 k G hk hJ
  have hJ' := hJ
  obtain ⟨hL, hP, hA, hN, T, np, q, D, hU, hB, hR, hC, hM, hV, hK⟩ := hJ
  have hX' : jX kN G T np q D := ⟨hL, hU, hB, hC, hV, kN_gt⟩
  have hM' : jM kN G T np q D := ⟨hL, hU, hR, hM, hV, kN_gt⟩
  have h5 := hU.1
  have h6 := hU.2.1
  by_cases z1 : jin a1 T = true
  rotate_left
  · refine ⟨-101, G, G, ?_, ?_, jJ_m k G hJ', kj_refl _⟩
    · show fX10_cast kN G a1 a2 = _
      unfold fX10_cast
      rw [x_isTrick hX', if_neg z1]; rfl
    · show fX11_cast kN G a1 a2 = _
      unfold fX11_cast
      rw [m_isTrick hM', if_neg z1]; rfl
  by_cases z2 : jin a2 np = true
  rotate_left
  · refine ⟨-101, G, G, ?_, ?_, jJ_m k G hJ', kj_refl _⟩
    · show fX10_cast kN G a1 a2 = _
      unfold fX10_cast
      rw [x_isNumber hX', if_neg z2, x_isTrick hX', if_pos z1]; rfl
    · show fX11_cast kN G a1 a2 = _
      unfold fX11_cast
      rw [m_isPerson hM', if_neg z2, m_isTrick hM', if_pos z1]; rfl
  obtain ⟨t, ht, rfl⟩ := jin_of z1 (by omega)
  obtain ⟨p, hp, rfl⟩ := jin_of z2 (by omega)
  have hc := hV.2.2.1 t (by omega)
  have hk32 := jk32 hV hU
  obtain ⟨t0, ws, x, hb, hta, hl, hx⟩ := hB
  have hB : jB G T np q := ⟨t0, ws, x, hb, hta, hl, hx⟩
  -- what the class asks
  let C : Bool := (jk D).testBit p && !((jcs D t).testBit p) && !(decide (tk_crew (q t) ≤ fJ6_bitCount_0f7a4 (nI (jcs D t)))) && decide (nI (kset (jcl q t) T) &&& nI (kset (fun t => (jcs D t).testBit p) 5) = 0)
  have exC : fX10_mayBeCast kN G (nI t) (nI p) = some (if C then 1 else 0) := by
    unfold fX10_mayBeCast
    simp only [xc_g hX' (show t < 5 by omega), Option.bind_some, x_has hX' (show p < 5 by omega), kb_has _ hc.1 p (by omega), hb, hta, (hx t ht).1, (hx t ht).2, x_clashesOf hX' ht, x_tricksOf hX' (show p < 5 by omega)]
    show _ = some (if ((jk D).testBit p && !((jcs D t).testBit p) && !(decide (tk_crew (q t) ≤ fJ6_bitCount_0f7a4 (nI (jcs D t)))) && decide (nI (kset (jcl q t) T) &&& nI (kset (fun t => (jcs D t).testBit p) 5) = 0)) = true then 1 else 0)
    by_cases y1 : (jk D).testBit p = true <;> by_cases y2 : (jcs D t).testBit p = true <;> by_cases y3 : tk_crew (q t) ≤ fJ6_bitCount_0f7a4 (nI (jcs D t)) <;> by_cases y4 : nI (kset (jcl q t) T) &&& nI (kset (fun t => (jcs D t).testBit p) 5) = 0 <;> simp [y1, y2, y3, y4]
  have hkb := (hC.2.2.1 t (by omega)).2
  have hcr : (fJ6_bitCount_0f7a4 (nI (jcs D t)) = tk_crew (q t)) = (tk_crew (q t) ≤ fJ6_bitCount_0f7a4 (nI (jcs D t))) := propext ⟨fun e => by rw [e]; exact Int32.le_refl _, fun e => Int32.le_antisymm hkb e⟩
  have ecs : nI (kset (fun t => (jcs D t).testBit p) 5) &&& nI (kset (jcl q t) T) = nI (kset (jcl q t) T) &&& nI (kset (fun t => (jcs D t).testBit p) 5) := Int32.and_comm _ _
  have l7 : (G.2.1 7).length = 5 := hL 7 (by decide)
  have l32 : (G.2.1 32).length = 5 := hL 32 (by decide)
  by_cases hCt : C = true
  rotate_left
  · refine ⟨-103, G, G, ?_, ?_, jJ_m k G hJ', kj_refl _⟩
    · show fX10_cast kN G (nI t) (nI p) = _
      unfold fX10_cast
      rw [x_isTrick hX', if_pos z1, x_isNumber hX', if_pos z2, exC, if_neg hCt]; rfl
    · show fX11_cast kN G (nI t) (nI p) = _
      unfold fX11_cast fX11_cast_41
      simp only [m_isTrick hM', z1, if_true, m_isPerson hM', z2, Option.bind_some, mc_g hM' ht, m_ones kN_gt hc.1, m_wantsOf hM' ht, m_isKept hM' hp, kb_sh _ hc.1 p (show p < 5 by omega), m_castSet hM' (show p < 5 by omega), m_clashSet hM' ht, hcr, ecs]
      have hCf : ((jk D).testBit p && !((jcs D t).testBit p) && !(decide (tk_crew (q t) ≤ fJ6_bitCount_0f7a4 (nI (jcs D t)))) && decide (nI (kset (jcl q t) T) &&& nI (kset (fun t => (jcs D t).testBit p) 5) = 0)) = false := by
        cases h : C
        · exact h
        · exact absurd h hCt
      by_cases y1 : (jk D).testBit p = true <;> by_cases y2 : (jcs D t).testBit p = true <;> by_cases y3 : tk_crew (q t) ≤ fJ6_bitCount_0f7a4 (nI (jcs D t)) <;> by_cases y4 : nI (kset (jcl q t) T) &&& nI (kset (fun t => (jcs D t).testBit p) 5) = 0 <;> simp [y1, y2, y3, y4] at hCf ⊢
  have hCt' : ((jk D).testBit p && !((jcs D t).testBit p) && !(decide (tk_crew (q t) ≤ fJ6_bitCount_0f7a4 (nI (jcs D t)))) && decide (nI (kset (jcl q t) T) &&& nI (kset (fun t => (jcs D t).testBit p) 5) = 0)) = true := hCt
  simp only [Bool.and_eq_true, Bool.not_eq_true', decide_eq_true_eq, decide_eq_false_iff_not] at hCt'
  obtain ⟨⟨⟨y1, y2⟩, y3⟩, y4⟩ := hCt'
  have hor := kb_or _ hc.1 p (show p < 5 by omega)
  let f : Nat → Nat := fun u => if u = t then jcs D t ||| 2 ^ p else jcs D u
  let xs := (G.2.1 7).set t (nI (jcs D t ||| 2 ^ p))
  let ys := (G.2.1 32).set t (nI (jcs D t ||| 2 ^ p))
  have gx : kv_g xs (nI t) = some (nI (jcs D t ||| 2 ^ p)) := by
    have lx : xs.length = 5 := by show ((G.2.1 7).set _ _).length = 5; rw [List.length_set, l7]
    rw [kn_g (by omega) (by omega)]
    show some (((G.2.1 7).set t _).getD t 0) = _
    rw [getD_set (by omega), if_pos rfl]
  have gy : kv_g ys (nI t) = some (nI (jcs D t ||| 2 ^ p)) := by
    have lx : ys.length = 5 := by show ((G.2.1 32).set _ _).length = 5; rw [List.length_set, l32]
    rw [kn_g (by omega) (by omega)]
    show some (((G.2.1 32).set t _).getD t 0) = _
    rw [getD_set (by omega), if_pos rfl]
  refine ⟨fJ6_bitCount_0f7a4 (nI (jcs D t ||| 2 ^ p)), kg_a G 7 xs, kg_a (kg_a G 7 xs) 32 ys, ?_, ?_, ?_, kj_refl _⟩
  · show fX10_cast kN G (nI t) (nI p) = _
    unfold fX10_cast
    simp only [x_isTrick hX', z1, if_true, x_isNumber hX', z2, exC, hCt, Option.bind_some, xc_g hX' (show t < 5 by omega), hor.1]
    rw [if_neg (by decide), if_neg (by decide), if_neg (by decide), kn_p (by omega) (by omega), Option.bind_some]
    show ((kv_g xs (nI t)).bind _) = _
    rw [gx]; rfl
  · have hM1 : jM kN (kg_a G 7 xs) T np q D := jM_of hM' (jLn_a hL (jLn_set hL (by decide))) (fun _ => rfl) (by simp [kg_a])
    have g32 : (kg_a G 7 xs).2.1 32 = G.2.1 32 := rfl
    show fX11_cast kN (kg_a G 7 xs) (nI t) (nI p) = _
    unfold fX11_cast fX11_cast_41
    simp only [m_isTrick hM1, z1, if_true, m_isPerson hM1, z2, Option.bind_some, g32, mc_g hM' ht, m_ones kN_gt hc.1, m_wantsOf hM1 ht, m_isKept hM1 hp, kb_sh _ hc.1 p (show p < 5 by omega), m_castSet hM1 (show p < 5 by omega), m_clashSet hM1 ht, hcr, ecs, y1, y2, y3, y4, hor.1, i10, i01, if_false, Bool.false_eq_true]
    rw [kn_p (by omega) (by omega)]
    have e2 : ((some ys).bind fun v6 => (kv_g v6 (nI t)).bind fun v7 => (fX11_ones kN v7).bind fun v8 => some (v8, kg_a (kg_a G 7 xs) 32 v6)) = some (fJ6_bitCount_0f7a4 (nI (jcs D t ||| 2 ^ p)), kg_a (kg_a G 7 xs) 32 ys) := by
      rw [Option.bind_some, gy, Option.bind_some, m_ones kN_gt hor.2]; rfl
    exact e2
  · refine jJ_cast hL hP hA hN hU hB hR hC hM hV hK f (by show ((G.2.1 7).set _ _).length = 5; rw [List.length_set, l7]) (by show ((G.2.1 32).set _ _).length = 5; rw [List.length_set, l32]) ?_ ?_ ?_
    · intro u hu
      show ((G.2.1 7).set t _).getD u 0 = nI (if u = t then jcs D t ||| 2 ^ p else jcs D u) ∧ fJ6_bitCount_0f7a4 (nI (if u = t then jcs D t ||| 2 ^ p else jcs D u)) ≤ _
      rw [getD_set (by omega)]
      by_cases w : u = t
      · rw [if_pos w, if_pos w]
        refine ⟨rfl, ?_⟩
        have b := (kb_bc_or _ hc.1 p (by omega)).resolve_left (by rw [y2]; decide)
        rw [w]
        rcases tk_crew12 (q t) with e | e
        · rw [e] at y3 ⊢; exact b.1.resolve_left y3
        · rw [e] at y3 ⊢; exact b.2.resolve_left y3
      · rw [if_neg w, if_neg w]; exact hC.2.2.1 u hu
    · intro u hu
      show ((G.2.1 32).set t _).getD u 0 = nI (if u = t then jcs D t ||| 2 ^ p else jcs D u)
      rw [getD_set (by omega)]
      by_cases w : u = t
      · rw [if_pos w, if_pos w]
      · rw [if_neg w, if_neg w]; exact hM.2.1 u hu
    · intro u hu
      show (if u = t then jcs D t ||| 2 ^ p else jcs D u) < 32 ∧ (if u = t then jcs D t ||| 2 ^ p else jcs D u) &&& jk D = (if u = t then jcs D t ||| 2 ^ p else jcs D u) ∧ (T ≤ u → (if u = t then jcs D t ||| 2 ^ p else jcs D u) = 0)
      by_cases w : u = t
      · rw [if_pos w]
        exact ⟨hor.2, kb_or_s _ hc.1 _ hk32 p (by omega) hc.2.1 y1, fun y => by omega⟩
      · rw [if_neg w]; exact hV.2.2.1 u hu
