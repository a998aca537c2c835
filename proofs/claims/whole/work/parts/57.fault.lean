/-! FAULT, fourth: the reference's loop; the order -/
def jSt (G : kg_G) (te j : Nat) : kg_G := kg_i G 28 2 (if te < j then nI te else -1)
/-- the reference's page of n letters -/
def jpm (G : kg_G) (n : Nat) (c : Nat → Nat) : Prop := n ≤ 36 ∧ G.1 28 1 = nI n ∧ ∀ i, i < n → c i < 127 ∧ kv_g (G.2.1 29) (nI i) = some (nI (c i))
theorem jpm_of {G : kg_G} {n : Nat} {c : Nat → Nat} (h : jpg G n c) : jpm G n c := ⟨h.1, h.2.2.1, fun i hi => ⟨(h.2.2.2 i hi).1, (h.2.2.2 i hi).2.2⟩⟩
theorem m_isGood {G : kg_G} {n : Nat} {c : Nat → Nat} (h : jpm G n c) {j : Nat} (hj : j < n) : fX11_isGood (jSt G (jte c n) j) (nI j) = some (if jgood c (jte c n) j then (1, jSt G (jte c n) (j + 1)) else (0, jSt G (jte c n) j)) := by
  obtain ⟨hn, e2, hc⟩ := h
  obtain ⟨a1, a2, a3, a4⟩ := kffg_ok (fun j => !(decide (c j = 59))) n 0
  have ht : jte c n ≤ n := by have := a2; unfold jte; omega
  have z := hc j hj
  have g29 : (jSt G (jte c n) j).2.1 29 = G.2.1 29 := rfl
  have e59 : (nI (c j) = 59) = (c j = 59) := kn_eq (a := c j) (b := 59) (by omega) (by omega)
  have gte : (jSt G (jte c n) j).1 28 2 = if jte c n < j then nI (jte c n) else -1 := rfl
  unfold fX11_isGood jgood
  rw [gte]
  by_cases y : j ≤ jte c n
  · have y' : ¬ jte c n < j := by omega
    have hl : fX11_isTrickLetter (jSt G (jte c n) j) (nI j) = some (if gT j (c j) then 1 else 0) := m_isTrickLetter (by omega) (by rw [g29]; exact z.2) z.1
    have s1 : kg_i (jSt G (jte c n) j) 28 2 (-1) = jSt G (jte c n) j := by unfold jSt; rw [if_neg y', kg_ii]
    rw [if_neg y', if_pos rfl, hl, Option.bind_some, g29, z.2, s1]
    simp only [y, if_true, Option.bind_some, e59]
    by_cases w : gT j (c j) = true
    · simp only [w, if_true]
      rw [if_neg (by decide)]
      by_cases v : c j = 59
      · have : jte c n = j := by
          by_cases q : j < jte c n
          · have := a3 j (by omega) q
            simp [v] at this
          · omega
        rw [if_pos v, if_pos (show (1 : Int32) &&& 1 = 1 by decide)]
        unfold jSt
        rw [kg_ii, this, if_pos (by omega)]
      · have : ¬ jte c n < j + 1 := by
          intro q
          have e : jte c n = j := by omega
          have := a4 (by show jte c n < 0 + n; omega)
          have e' : kffg (fun j => !(decide (c j = 59))) n 0 = j := e
          rw [e'] at this
          simp [v] at this
        rw [if_neg v, if_pos (show (1 : Int32) &&& 1 = 1 by decide)]
        unfold jSt
        rw [if_neg y', if_neg this]
    · have w' : gT j (c j) = false := by simpa using w
      rw [w']
      simp
  · have y' : jte c n < j := by omega
    have hne : ¬ nI (jte c n) = -1 := by
      intro x
      have := kn_neg (n := jte c n) (by omega)
      rw [x] at this
      exact this (by decide)
    have ee : (nI j - nI (jte c n)) - 1 = nI (j - jte c n - 1) := by
      rw [kn_sub (by omega)]
      exact kn_sub (a := j - jte c n) (b := 1) (by omega)
    have t1 : ((10 : Int32) ≤ nI (j - jte c n - 1)) = (10 ≤ j - jte c n - 1) := kn_le (a := 10) (b := j - jte c n - 1) (by omega) (by omega)
    obtain ⟨_, _, d3, d4⟩ := g_in (c j) z.1
    have s2 : jSt G (jte c n) (j + 1) = jSt G (jte c n) j := by unfold jSt; rw [if_pos y', if_pos (by omega)]
    rw [if_pos y', if_neg hne, ee, g29, z.2, s2]
    unfold fX11_isGood_48 gP
    simp only [t1, g_mod2 (j - jte c n - 1) (by omega), g_j2 _ (Nat.mod_lt _ (by decide)), Option.bind_some, d3, d4, y, if_false]
    by_cases w : 10 ≤ j - jte c n - 1
    · simp [w]
    · by_cases v : (j - jte c n - 1) % 2 = 0
      · simp only [w, v, if_false, if_true]
        cases gD (c j) 48 57 <;> simp
      · simp only [w, v, if_false]
        cases gD (c j) 48 53 <;> simp
theorem m_faultOf {G : kg_G} {n : Nat} {c : Nat → Nat} (h : jpm G n c) : fX11_faultOf kN G = some (nI (jff c n), jSt G (jte c n) (jff c n)) := by
  have h' := h
  obtain ⟨hn, e2, hc⟩ := h
  have s0 : kg_i G 28 2 (-1) = jSt G (jte c n) 0 := by unfold jSt; rw [if_neg (by omega)]
  have ii : ∀ j, j < 100 → (nI j).toInt.toNat = j := fun j hj => by rw [kn_int (by omega)]; rfl
  unfold fX11_faultOf
  rw [s0]
  refine kl_first (fun m x => fX11_faultOf_7 kN m (jSt G (jte c n) x.toInt.toNat) x) (jgood c (jte c n)) n (fun j => some (nI j, jSt G (jte c n) j)) ?_ ?_ n 0 kN (by omega) (by have := kN_gt; omega)
  · intro m
    show fX11_faultOf_7 kN (m + 1) (jSt G (jte c n) (nI n).toInt.toNat) (nI n) = _
    rw [ii n (by omega)]
    have g : (jSt G (jte c n) n).1 28 1 = nI n := e2
    rw [fX11_faultOf_7, g, if_pos (by rw [kn_le (by omega) (by omega)]; omega)]
  · intro m j hj
    show fX11_faultOf_7 kN (m + 1) (jSt G (jte c n) (nI j).toInt.toNat) (nI j) = if jgood c (jte c n) j then fX11_faultOf_7 kN m (jSt G (jte c n) (nI (j + 1)).toInt.toNat) (nI (j + 1)) else some (nI j, jSt G (jte c n) j)
    rw [ii j (by omega), ii (j + 1) (by omega)]
    have g : (jSt G (jte c n) j).1 28 1 = nI n := e2
    rw [fX11_faultOf_7, g, if_neg (m_loop (by omega) hj), m_isGood h' hj, Option.bind_some, kn_succ]
    cases jgood c (jte c n) j <;> simp
theorem jJ_end {k : Nat} {G : kg_G} (hJ : jJ k G) (v : Int32) : jJ (k + 1) (kg_i G 28 2 v) := by
  obtain ⟨hL, hP, hA, hN, T, np, q, D, hU, hB, hR, hC, hM, hV, hK⟩ := hJ
  refine jJ_F (D := D) hL hP hA hN hU hB hR hK ?_ (jTC_of hC (fun _ _ _ => rfl) (fun _ _ _ => rfl)) (jTM_of hM (j713 rfl rfl rfl rfl rfl rfl rfl) rfl rfl rfl) hV
  refine ⟨?_, ?_, fun _ => rfl, fun _ => rfl, fun _ => rfl, rfl⟩ <;> simp [kg_i]
theorem op_fault : kj_op jJ (fun G => kjx_fault G) (fun G => kjm_fault G) := by
  intro k G hk hJ
  obtain ⟨n, c, hp⟩ := jpg_of hJ.1 hJ.2.1
  refine ⟨nI (jff c n), G, jSt G (jte c n) (jff c n), ?_, ?_, jJ_end hJ _, kj_refl _⟩
  · show (fX10_fault kN G).map _ = _
    unfold fX10_fault
    rw [x_firstFault hp]; rfl
  · show fX11_fault kN G = _
    unfold fX11_fault
    rw [m_faultOf (jpm_of hp)]; rfl
