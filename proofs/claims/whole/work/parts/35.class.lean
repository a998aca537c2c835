/-! CLOSED FORMS of the class's helps -/
def jX (N : Nat) (G : kg_G) (T np : Nat) (q : Nat → tk_Q) (D : jD) : Prop := jLn G ∧ jU T np q ∧ jB G T np q ∧ jTC G q 3 D ∧ jV T np D ∧ 100 < N
section JX
variable {N : Nat} {G : kg_G} {T np : Nat} {q : Nat → tk_Q} {D : jD}
theorem x_has (h : jX N G T np q D) {p : Nat} (hp : p < 5) : fX10_has (G.1 3 6) (nI p) = if (jk D).testBit p then 1 else 0 := by
  rw [h.2.2.2.1.1, kb_has _ (jk32 h.2.2.2.2.1 h.2.1) p hp]
theorem xs_g (h : jX N G T np q D) {p : Nat} (hp : p < 5) (hb : (jk D).testBit p = true) : kv_g (G.2.1 4) (nI p) = some (jst D p) := by
  rw [kA_g h.1 (by decide) (by show _ < 5; omega), (h.2.2.2.1.2.1 p hp hb).1]
theorem xt_g (h : jX N G T np q D) {p : Nat} (hp : p < 5) (hb : (jk D).testBit p = true) : kv_g (G.2.1 5) (nI p) = some (jtw D p) := by
  rw [kA_g h.1 (by decide) (by show _ < 5; omega), (h.2.2.2.1.2.1 p hp hb).2.1]
theorem xh_g (h : jX N G T np q D) {p : Nat} (hp : p < 5) (hb : (jk D).testBit p = true) : kv_g (G.2.1 6) (nI p) = some (jhd D p) := by
  rw [kA_g h.1 (by decide) (by show _ < 5; omega), (h.2.2.2.1.2.1 p hp hb).2.2]
theorem xc_g (h : jX N G T np q D) {t : Nat} (ht : t < 5) : kv_g (G.2.1 7) (nI t) = some (nI (jcs D t)) := by
  rw [kA_g h.1 (by decide) (by show _ < 5; omega), (h.2.2.2.1.2.2.1 t ht).1]
theorem x_tricksOf (h : jX N G T np q D) {p : Nat} (hp : p < 5) : fX9_tricksOf N G (nI p) = some (nI (kset (fun t => (jcs D t).testBit p) 5)) := by
  refine kl_bits (fun n a i => fX9_tricksOf_4 N G n (nI p) a i) _ 5 (Nat.le_refl 5) (n := N) (by have := h.2.2.2.2.2; omega) ?_ ?_
  · intro n a; rfl
  · intro n a j hj
    show fX9_tricksOf_4 N G (n + 1) (nI p) a (nI j) = fX9_tricksOf_4 N G n (nI p) _ _
    have q1 : ¬ (5 : Int32) ≤ nI j := m_loop (m := 5) (by omega) hj
    rw [fX9_tricksOf_4, if_neg q1, xc_g h hj, Option.bind_some, kn_succ, kb_has _ (jcs32 h.2.2.2.2.1 (by omega)) p hp]
    by_cases hb : (jcs D j).testBit p = true
    · simp [hb]
    · simp [hb]
theorem x_suitedFor (h : jX N G T np q D) {x : Nat} {Q : tk_Q} (hx : kg_tr (kg_Y G) x = some Q) : fX9_suitedFor N G x = some (nI (kset (jfit Q D) 5)) := by
  refine kl_bits (fun n a i => fX9_suitedFor_4 N G n x a i) _ 5 (Nat.le_refl 5) (n := N) (by have := h.2.2.2.2.2; omega) ?_ ?_
  · intro n a; rfl
  · intro n a j hj
    show fX9_suitedFor_4 N G (n + 1) x a (nI j) = fX9_suitedFor_4 N G n x _ _
    have q1 : ¬ (5 : Int32) ≤ nI j := m_loop (m := 5) (by omega) hj
    rw [fX9_suitedFor_4, if_neg q1, x_has h hj, kn_succ, hx]
    unfold jfit
    by_cases hb : (jk D).testBit j = true
    · simp only [hb, if_true, xs_g h hj hb, Option.bind_some, Bool.true_and, jsu_if]
      by_cases hs : jsu Q (jst D j) = true
      · simp [hs]
      · simp [hs]
    · simp [hb]
theorem x_clashesOf (h : jX N G T np q D) {t : Nat} (ht : t < T) : fX0_clashesOf N G G.2.2.2.1 (nI t) = some (nI (kset (jcl q t) T)) := by
  obtain ⟨hL, hU, ⟨t0, ws, x, hb, hta, hl, hx⟩, hT, hV, hN⟩ := h
  have h5 := hU.1
  refine kl_bits (fun n a i => fX0_clashesOf_4 N G n G.2.2.2.1 (nI t) a i) _ T h5 (n := N) (by omega) ?_ ?_
  · intro n a
    show fX0_clashesOf_4 N G (n + 1) G.2.2.2.1 (nI t) a (nI T) = _
    rw [fX0_clashesOf_4, hb, Option.bind_some, hta, Option.bind_some, hl, if_pos (by rw [kn_le (by omega) (by omega)]; omega)]
  · intro n a j hj
    show fX0_clashesOf_4 N G (n + 1) G.2.2.2.1 (nI t) a (nI j) = fX0_clashesOf_4 N G n G.2.2.2.1 (nI t) _ _
    have e1 := kn_eq (a := j) (b := t) (by omega) (by omega)
    have e2 := m_loop (m := T) (j := j) (by omega) hj
    rw [fX0_clashesOf_4]
    simp only [hb, Option.bind_some, hta, hl, e2, if_false, e1, (hx j hj).1, (hx j hj).2, (hx t ht).1, (hx t ht).2, kn_succ]
    unfold jcl
    rw [Int32.and_comm (tk_busyHours (q j))]
    by_cases h1 : j = t
    · simp [h1]
    · have h1' : ¬ t = j := fun z => h1 z.symm
      by_cases h2 : tk_busyHours (q t) &&& tk_busyHours (q j) = 0
      · simp [h1, h1', h2]
      · simp [h1, h1', h2]
theorem x_busyHoursOf (h : jX N G T np q D) (f : Nat → Bool) : fX0_busyHoursOf N G G.2.2.2.1 (nI (kset f 5)) = some (jbusy q f T) := by
  obtain ⟨hL, hU, ⟨t0, ws, x, hb, hta, hl, hx⟩, hT, hV, hN⟩ := h
  have h5 := hU.1
  refine kl_fold (fun n a i => fX0_busyHoursOf_4 N G n G.2.2.2.1 (nI (kset f 5)) a i) _ T some (n := N) (by omega) ?_ ?_
  · intro n a
    show fX0_busyHoursOf_4 N G (n + 1) G.2.2.2.1 _ a (nI T) = _
    rw [fX0_busyHoursOf_4, hb, Option.bind_some, hta, Option.bind_some, hl, if_pos (by rw [kn_le (by omega) (by omega)]; omega)]
  · intro n a j hj
    show fX0_busyHoursOf_4 N G (n + 1) G.2.2.2.1 _ a (nI j) = fX0_busyHoursOf_4 N G n G.2.2.2.1 _ _ _
    have e2 := m_loop (m := T) (j := j) (by omega) hj
    rw [fX0_busyHoursOf_4]
    simp only [hb, Option.bind_some, hta, hl, e2, if_false, (hx j hj).1, (hx j hj).2, kn_succ, kb_has _ (kset_lt32 f (Nat.le_refl 5)) j (by omega), kset_bit f (show j < 5 by omega)]
    by_cases h1 : f j = true
    · simp [h1]
    · simp [h1]
/-- done by a set, of any row of strongs -/
theorem x_isDoneBy (h : jX N G T np q D) {t : Nat} (ht : t < T) {m : Nat} (hm : m < 32) (a3 : Nat) (ha : a3 ∈ kg_arrs) (hl3 : (G.2.1 a3).length = 5) (st : Nat → Int32) (hst : ∀ p, p < 5 → m.testBit p = true → kA G a3 p = st p) : fX0_isDoneBy N G G.2.2.2.1 (nI t) (nI m) a3 = some (if jdone (q t) st m then 1 else 0) := by
  obtain ⟨hL, hU, ⟨t0, ws, x, hb, hta, hl, hx⟩, hT, hV, hN⟩ := h
  unfold fX0_isDoneBy
  simp only [hb, Option.bind_some, hta, (hx t ht).1, (hx t ht).2]
  have e : fX0_isDoneBy_28 N G N (nI m) a3 (x t) 0 0 = if kall (fun p => !(m.testBit p) || jsu (q t) (st p)) 5 then some (tk_holdsWith (q t) (jsum st m)) else some 0 := by
    refine kl_all (fun n a i => fX0_isDoneBy_28 N G n (nI m) a3 (x t) a i) (fun p a => if m.testBit p then a + st p else a) _ 5 (fun a => some (tk_holdsWith (q t) a)) (some 0) (n := N) (by omega) ?_ ?_
    · intro n a
      show fX0_isDoneBy_28 N G (n + 1) (nI m) a3 (x t) a (nI 5) = _
      rw [fX0_isDoneBy_28]
      unfold kg_le
      rw [if_pos ha, hl3, Option.bind_some, if_pos (by decide), (hx t ht).2, Option.bind_some, if_pos]
      unfold tk_holdsWith
      repeat' split
      all_goals rfl
    · intro n a j hj
      show fX0_isDoneBy_28 N G (n + 1) (nI m) a3 (x t) a (nI j) = _
      rw [fX0_isDoneBy_28]
      unfold kg_le kg_ld
      have q1 : ¬ nI 5 ≤ nI j := m_loop (m := 5) (by omega) hj
      simp only [if_pos ha, hl3, Option.bind_some, q1, if_false, (hx t ht).2, kn_succ, kb_has m hm j hj, kA_g (i := j) hL ha (by have := hL a3 ha; omega), jsu_if]
      by_cases hb : m.testBit j = true
      · have := hst j hj hb
        by_cases hs : jsu (q t) (st j) = true
        · simp [hb, hs, this]
        · simp [hb, hs, this]
      · simp [hb]
  rw [e]
  unfold jdone tk_holdsWith
  by_cases h1 : fJ6_bitCount_0f7a4 (nI m) = tk_crew (q t) <;> by_cases h2 : kall (fun p => !(m.testBit p) || jsu (q t) (st p)) 5 = true <;> by_cases h3 : (q t).1 = 5 <;> by_cases h4 : jsum st m < (q t).2.2.2 <;> simp [h1, h2, h3, h4]
theorem x_isDoneNow (h : jX N G T np q D) {t : Nat} (ht : t < T) : fX10_isDoneNow N G (nI t) = some (if jdone (q t) (jst D) (jcs D t) then 1 else 0) := by
  have h5 := h.2.1.1
  have hc := h.2.2.2.2.1.2.2.1 t (by omega)
  have hk := (kb_andb _ hc.1 _ (jk32 h.2.2.2.2.1 h.2.1)).mp hc.2.1
  obtain ⟨t0, ws, x, hb, _⟩ := h.2.2.1
  unfold fX10_isDoneNow
  rw [xc_g h (by omega), Option.bind_some, hb, Option.bind_some, x_isDoneBy h ht hc.1 4 (by decide) (h.1 4 (by decide)) (jst D) (fun p hp hb => (h.2.2.2.1.2.1 p hp (hk p hp hb)).1), Option.bind_some]
  split <;> rfl
theorem x_doneNow (h : jX N G T np q D) : fX10_doneNow N G = some (jdn q D T) := by
  have h' := h
  obtain ⟨hL, hU, ⟨t0, ws, x, hb, hta, hl, hx⟩, hT, hV, hN⟩ := h
  have h5 := hU.1
  refine kl_fold (fun n a i => fX10_doneNow_4 N G n a i) _ T some (n := N) (by omega) ?_ ?_
  · intro n a
    show fX10_doneNow_4 N G (n + 1) a (nI T) = _
    rw [fX10_doneNow_4, hb, Option.bind_some, hta, Option.bind_some, hl, if_pos (by rw [kn_le (by omega) (by omega)]; omega)]
  · intro n a j hj
    show fX10_doneNow_4 N G (n + 1) a (nI j) = fX10_doneNow_4 N G n _ _
    have e2 := m_loop (m := T) (j := j) (by omega) hj
    rw [fX10_doneNow_4]
    simp only [hb, Option.bind_some, hta, hl, e2, if_false, x_isDoneNow h' hj, kn_succ]
    by_cases h1 : jdone (q j) (jst D) (jcs D j) = true
    · simp [h1]
    · simp [h1]
theorem x_wantedIn (h : jX N G T np q D) (i : Nat) : fX0_wantedIn N G G.2.2.2.1 (nI i) = some (jwa q T i) := by
  obtain ⟨hL, hU, ⟨t0, ws, x, hb, hta, hl, hx⟩, hT, hV, hN⟩ := h
  have h5 := hU.1
  refine kl_fold (fun n a j => fX0_wantedIn_4 N G n G.2.2.2.1 (nI i) a j) _ T some (n := N) (by omega) ?_ ?_
  · intro n a
    show fX0_wantedIn_4 N G (n + 1) G.2.2.2.1 (nI i) a (nI T) = _
    rw [fX0_wantedIn_4, hb, Option.bind_some, hta, Option.bind_some, hl, if_pos (by rw [kn_le (by omega) (by omega)]; omega)]
  · intro n a j hj
    show fX0_wantedIn_4 N G (n + 1) G.2.2.2.1 (nI i) a (nI j) = fX0_wantedIn_4 N G n G.2.2.2.1 (nI i) _ _
    have e2 := m_loop (m := T) (j := j) (by omega) hj
    rw [fX0_wantedIn_4]
    simp only [hb, Option.bind_some, hta, hl, e2, if_false, (hx j hj).1, (hx j hj).2, kn_succ]
    unfold jrun
    rcases kb_has01 (tk_runningHours (q j)) (nI i) with z | z
    · simp [z]
    · simp [z]
theorem x_bound (h : jX N G T np q D) : fX0_bound N G G.2.2.2.1 = some (jbd q T) := by
  have h' := h
  obtain ⟨hL, hU, ⟨t0, ws, x, hb, hta, hl, hx⟩, hT, hV, hN⟩ := h
  refine kl_fold (fun n a j => fX0_bound_4 N G n G.2.2.2.1 a j) _ 12 some (n := N) (by omega) ?_ ?_
  · intro n a; rfl
  · intro n a j hj
    show fX0_bound_4 N G (n + 1) G.2.2.2.1 a (nI j) = fX0_bound_4 N G n G.2.2.2.1 _ _
    have q1 : ¬ (11 : Int32) < nI j := by
      show ¬ nI 11 < nI j
      rw [kn_lt (by omega) (by omega)]; omega
    rw [fX0_bound_4, if_neg q1, hb, Option.bind_some, x_wantedIn h', Option.bind_some, kn_succ]
    unfold fJ9_max_7cf53
    by_cases z : jwa q T j ≤ a
    · rw [if_pos z, if_neg (Int32.not_lt.mpr z)]
    · rw [if_neg z, if_pos (Int32.not_le.mp z)]
end JX
