/-! NIGHT -/
theorem nI_or (a b : Nat) : nI a ||| nI b = nI (a ||| b) := by
  unfold nI
  apply Int32.toBitVec_inj.mp
  simp [BitVec.ofNat_or]
/-- who holds a rope tonight -/
def jns (q : Nat → tk_Q) (D : jD) (T : Nat) : Nat := kfo (fun t a => if jdone (q t) (jst D) (jcs D t) then a ||| jcs D t else a) T 0
theorem kt_or2 : ∀ a, a < 32 → ∀ b, b < 32 → a ||| b < 32 := by decide +kernel
theorem kt_or3 : ∀ k, k < 32 → ∀ a, a < 32 → a &&& k = a → ∀ b, b < 32 → b &&& k = b → (a ||| b) &&& k = a ||| b := by
  intro k hk a ha h1 b hb h2
  rw [Nat.and_or_distrib_right, h1, h2]
section JNI
variable {G : kg_G} {T np : Nat} {q : Nat → tk_Q} {D : jD}
theorem jns_ok (hV : jV T np D) (hU : jU T np q) : jns q D T < 32 ∧ jns q D T &&& jk D = jns q D T := by
  have h5 := hU.1
  refine kfo_inv (fun _ a => a < 32 ∧ a &&& jk D = a) T 0 ⟨by decide, by simp⟩ ?_
  intro j a hj ⟨h1, h2⟩
  have hc := hV.2.2.1 j (by omega)
  by_cases z : jdone (q j) (jst D) (jcs D j) = true
  · simp only [z, if_true]
    exact ⟨kt_or2 _ h1 _ hc.1, kt_or3 _ (jk32 hV hU) _ h1 h2 _ hc.1 hc.2.1⟩
  · simp only [z]
    exact ⟨h1, h2⟩
theorem x_hold {G : kg_G} (hL : jLn G) {S : Nat} (hS : S < 32) : fX9_holdRopes kN G (nI S) = some (kg_a G 6 (kmap (fun j v => if S.testBit j then v + 1 else v) 5 (G.2.1 6))) := by
  refine kl_map (fun n b g i => fX9_holdRopes_2 kN n g (nI S) i) 6 G (fun j v => if S.testBit j then v + 1 else v) (fun _ _ b => b) 5 (fun _ g => some g) (by decide) hL (by decide) (n := kN) (c := 0) (by have := kN_gt; omega) ?_ ?_
  · intro n b xs hx; rfl
  · intro n b xs j hj hx hg
    show fX9_holdRopes_2 kN (n + 1) (kg_a G 6 xs) (nI S) (nI j) = fX9_holdRopes_2 kN n (kg_a G 6 (xs.set j (if S.testBit j then kA G 6 j + 1 else kA G 6 j))) (nI S) (nI (j + 1))
    have q1 : ¬ (5 : Int32) ≤ nI j := m_loop (m := 5) (by omega) hj
    have hx5 : xs.length = 5 := hx
    rw [fX9_holdRopes_2, if_neg q1, kb_has S hS j hj, kn_succ]
    by_cases z : S.testBit j = true
    · rw [if_pos z, if_neg (by decide), if_pos z, kv_ga hx hj (by decide), Option.bind_some, kv_pa hx hj (by decide), Option.bind_some, kg_aa, hg]
    · rw [if_neg z, if_pos rfl, if_neg z]
      have : xs.set j (kA G 6 j) = xs := by
        refine getD_ext (by rw [List.length_set]) (fun i hi => ?_)
        rw [getD_set (by omega)]
        split
        · rename_i e; rw [e, hg]
        · rfl
      rw [this]
theorem x_night31 (h : jX kN G T np q D) : fX10_night_31 kN kN G 0 0 0 = (fX9_holdRopes kN G (nI (jns q D T))).bind fun v3 => some (jdn q D T, kg_i (kg_i v3 3 8 ((v3.1 3 8) + 1)) 3 9 ((v3.1 3 9) + jdn q D T)) := by
  have h' := h
  obtain ⟨hL, hU, ⟨t0, ws, x, hb, hta, hl, hx⟩, hT, hV, hN⟩ := h
  have h5 := hU.1
  obtain ⟨n', a', e1, p1, p2⟩ := kl_inv (fun n (a : Int32 × Int32) i => fX10_night_31 kN n G a.1 a.2 i) (fun j a => a.1 = nI (jns q D j) ∧ a.2 = jdn q D j) T (n := kN) (a := (0, 0)) (by have := kN_gt; omega) ⟨rfl, rfl⟩ (by
    intro n a j hj ⟨q1, q2⟩
    refine ⟨(nI (jns q D (j + 1)), jdn q D (j + 1)), ?_, rfl, rfl⟩
    show fX10_night_31 kN (n + 1) G a.1 a.2 (nI j) = fX10_night_31 kN n G (nI (jns q D (j + 1))) (jdn q D (j + 1)) (nI (j + 1))
    have e2 := m_loop (m := T) (j := j) (by omega) hj
    have s1 : jns q D (j + 1) = if jdone (q j) (jst D) (jcs D j) then jns q D j ||| jcs D j else jns q D j := rfl
    have s2 : jdn q D (j + 1) = if jdone (q j) (jst D) (jcs D j) then jdn q D j + 1 else jdn q D j := rfl
    rw [fX10_night_31]
    simp only [hb, Option.bind_some, hta, hl, e2, if_false, x_isDoneNow h' hj, kn_succ, xc_g h' (show j < 5 by omega), s1, s2, q1, q2, nI_or]
    by_cases z : jdone (q j) (jst D) (jcs D j) = true
    · simp [z]
    · simp [z])
  refine Eq.trans e1 ?_
  show fX10_night_31 kN (n' + 1) G a'.1 a'.2 (nI T) = _
  rw [fX10_night_31, hb, Option.bind_some, hta, Option.bind_some, hl, if_pos (by rw [kn_le (by omega) (by omega)]; omega), p1, p2]
theorem m_night26 (h : jM kN G T np q D) : fX11_night_26 kN kN G 0 0 = fX11_night_69 kN kN G (nI (jns q D T)) 0 := by
  have h5 := h.2.1.1
  obtain ⟨n', a', e1, p1⟩ := kl_inv (fun n (a : Int32) i => fX11_night_26 kN n G a i) (fun j a => a = nI (jns q D j)) T (n := kN) (a := 0) (by have := kN_gt; omega) rfl (by
    intro n a j hj q1
    refine ⟨nI (jns q D (j + 1)), ?_, rfl⟩
    show fX11_night_26 kN (n + 1) G a (nI j) = fX11_night_26 kN n G (nI (jns q D (j + 1))) (nI (j + 1))
    have hc := h.2.2.2.2.1.2.2.1 j (by omega)
    have s1 : jns q D (j + 1) = if jdone (q j) (jst D) (jcs D j) then jns q D j ||| jcs D j else jns q D j := rfl
    rw [fX11_night_26, m_T h, if_neg (m_loop (by omega) hj), mc_g h hj, Option.bind_some, m_isDoneBy h hj hc.1 hc.2.1, Option.bind_some, kn_succ, i_or0, s1, q1]
    simp only [Option.bind_some, nI_or]
    by_cases z : jdone (q j) (jst D) (jcs D j) = true
    · simp [z]
    · simp [z])
  refine Eq.trans e1 ?_
  show fX11_night_26 kN (n' + 1) G a' (nI T) = _
  rw [fX11_night_26, m_T h, if_pos (by rw [kn_le (by omega) (by omega)]; omega), p1]
end JNI
