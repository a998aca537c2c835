/-! FAULT, third: both loops -/
theorem kffg_ok (good : Nat → Bool) : ∀ (d j : Nat), j ≤ kffg good d j ∧ kffg good d j ≤ j + d ∧ (∀ k, j ≤ k → k < kffg good d j → good k = true) ∧ (kffg good d j < j + d → good (kffg good d j) = false)
  | 0, j => ⟨Nat.le_refl _, Nat.le_refl _, fun k h1 h2 => absurd h2 (by show ¬ k < j; omega), fun h => absurd h (by show ¬ j < j + 0; omega)⟩
  | d + 1, j => by
    rw [kffg]
    by_cases z : good j = true
    · rw [if_pos z]
      obtain ⟨a1, a2, a3, a4⟩ := kffg_ok good d (j + 1)
      refine ⟨by omega, by omega, fun k h1 h2 => ?_, fun h => a4 (by omega)⟩
      by_cases e : k = j
      · rw [e]; exact z
      · exact a3 k (by omega) h2
    · rw [if_neg z]
      exact ⟨Nat.le_refl _, by omega, fun k h1 h2 => by omega, fun _ => by simpa using z⟩
theorem kg_ii (G : kg_G) (a k : Nat) (v w : Int32) : kg_i (kg_i G a k v) a k w = kg_i G a k w := by
  unfold kg_i
  refine congrArg (fun z => (z, G.2)) ?_
  funext b j
  show (if b = a then (if j = k then w else (if b = a then (if j = k then v else G.1 b j) else G.1 b j)) else (if b = a then (if j = k then v else G.1 b j) else G.1 b j)) = if b = a then (if j = k then w else G.1 b j) else G.1 b j
  by_cases h : b = a
  · by_cases h2 : j = k <;> simp [h, h2]
  · simp [h]
/-- a page of n letters -/
def jpg (G : kg_G) (n : Nat) (c : Nat → Nat) : Prop := n ≤ 36 ∧ G.1 1 1 = nI n ∧ G.1 28 1 = nI n ∧ ∀ i, i < n → c i < 127 ∧ kv_g (G.2.1 2) (nI i) = some (nI (c i)) ∧ kv_g (G.2.1 29) (nI i) = some (nI (c i))
theorem jpg_of {G : kg_G} (hL : jLn G) (hP : jP G) : ∃ n c, jpg G n c := by
  obtain ⟨p1, p2, n, hn, en, pc⟩ := hP
  refine ⟨n, fun i => (kA G 29 i).toInt.toNat, hn, p2.trans en, en, fun i hi => ?_⟩
  obtain ⟨c, h1, h2, h3⟩ := pc i hi
  have e : (kA G 29 i).toInt.toNat = c := by rw [h3, kn_int (by omega)]; rfl
  have g : kv_g (G.2.1 29) (nI i) = some (nI c) := by rw [kA_g hL (by decide) (by show _ < 36; omega), h3]
  show (kA G 29 i).toInt.toNat < 127 ∧ kv_g (G.2.1 2) (nI i) = some (nI (kA G 29 i).toInt.toNat) ∧ kv_g (G.2.1 29) (nI i) = some (nI (kA G 29 i).toInt.toNat)
  rw [e, p1, g]
  exact ⟨by omega, rfl, rfl⟩
def jte (c : Nat → Nat) (n : Nat) : Nat := kffg (fun j => !(decide (c j = 59))) n 0
def jgood (c : Nat → Nat) (te j : Nat) : Bool := if j ≤ te then gT j (c j) else gP (j - te - 1) (c j)
def jff (c : Nat → Nat) (n : Nat) : Nat := kffg (jgood c (jte c n)) n 0
theorem x_tricksEnd {G : kg_G} {n : Nat} {c : Nat → Nat} (h : jpg G n c) : fX2_tricksEnd kN G = some (nI (jte c n)) := by
  obtain ⟨hn, e1, e2, hc⟩ := h
  refine kl_first (fun m x => fX2_tricksEnd_2 kN G m x) (fun j => !(decide (c j = 59))) n (fun j => some (nI j)) ?_ ?_ n 0 kN (by omega) (by have := kN_gt; omega)
  · intro m
    show fX2_tricksEnd_2 kN G (m + 1) (nI n) = _
    rw [fX2_tricksEnd_2, e1, if_pos (by rw [kn_le (by omega) (by omega)]; omega)]
  · intro m j hj
    show fX2_tricksEnd_2 kN G (m + 1) (nI j) = if (!(decide (c j = 59))) then fX2_tricksEnd_2 kN G m (nI (j + 1)) else some (nI j)
    have z := hc j hj
    have e59 : (nI (c j) = 59) = (c j = 59) := kn_eq (a := c j) (b := 59) (by omega) (by omega)
    rw [fX2_tricksEnd_2, e1, if_neg (m_loop (by omega) hj), z.2.1, Option.bind_some, kn_succ]
    simp only [e59]
    by_cases y : c j = 59
    · simp [y]
    · simp [y]
theorem x_firstFault {G : kg_G} {n : Nat} {c : Nat → Nat} (h : jpg G n c) : fX2_firstFault kN G = some (nI (jff c n)) := by
  unfold fX2_firstFault
  rw [x_tricksEnd h, Option.bind_some]
  obtain ⟨hn, e1, e2, hc⟩ := h
  have hte := kffg_ok (fun j => !(decide (c j = 59))) n 0
  refine kl_first (fun m x => fX2_firstFault_7 kN G m (nI (jte c n)) x) (jgood c (jte c n)) n (fun j => some (nI j)) ?_ ?_ n 0 kN (by omega) (by have := kN_gt; omega)
  · intro m
    show fX2_firstFault_7 kN G (m + 1) (nI (jte c n)) (nI n) = _
    rw [fX2_firstFault_7, e1, if_pos (by rw [kn_le (by omega) (by omega)]; omega)]
  · intro m j hj
    show fX2_firstFault_7 kN G (m + 1) (nI (jte c n)) (nI j) = if jgood c (jte c n) j then fX2_firstFault_7 kN G m (nI (jte c n)) (nI (j + 1)) else some (nI j)
    have z := hc j hj
    have ht : jte c n ≤ n := by have := hte.2.1; unfold jte; omega
    have el : (nI j ≤ nI (jte c n)) = (j ≤ jte c n) := kn_le (by omega) (by omega)
    rw [fX2_firstFault_7, e1, if_neg (m_loop (by omega) hj)]
    unfold fX2_firstFault_34 jgood
    simp only [el, kn_succ, x_isOfTricks (show j < 36 by omega) z.2.1 z.1, Option.bind_some]
    by_cases y : j ≤ jte c n
    · simp only [y, if_true]
      cases gT j (c j) <;> simp
    · simp only [y, if_false]
      rw [x_isOfPeople (by omega) (by omega) z.2.1 z.1, Option.bind_some]
      cases gP (j - jte c n - 1) (c j) <;> simp
