/-! CLOSED FORMS of the reference's helps, second -/
def jcl (q : Nat → tk_Q) (t u : Nat) : Bool := !(decide (t = u)) && !(decide (tk_busyHours (q t) &&& tk_busyHours (q u) = 0))
def jrun (q : tk_Q) (h : Nat) : Bool := fX10_has (tk_runningHours q) (nI h) = 1
def jbusy (q : Nat → tk_Q) (f : Nat → Bool) (T : Nat) : Int32 := kfo (fun t a => if f t then a ||| tk_busyHours (q t) else a) T 0
def jdn (q : Nat → tk_Q) (D : jD) (T : Nat) : Int32 := kfo (fun t a => if jdone (q t) (jst D) (jcs D t) then a + 1 else a) T 0
def jwa (q : Nat → tk_Q) (T h : Nat) : Int32 := kfo (fun t a => if jrun (q t) h then a + tk_crew (q t) else a) T 0
def jbd (q : Nat → tk_Q) (T : Nat) : Int32 := kfo (fun h a => if jwa q T h ≤ a then a else jwa q T h) 12 0
theorem kb_busy : ∀ h, h < 8 → ∀ n, n < 4 → (((1 <<< (nI (n + 1) &&& 31)) - 1) <<< (nI h &&& 31)) ||| ((((1 <<< (nI (n + 1) &&& 31)) - 1) <<< (nI h &&& 31)) <<< (1 &&& 31)) = (((1 <<< ((nI (n + 1) + 1) &&& 31)) - 1) <<< (nI h &&& 31) : Int32) := by decide +kernel
def krh (h n : Nat) : Int32 := ((1 <<< (nI n &&& 31)) - 1) <<< (nI h &&& 31)
theorem kb_run : ∀ h, h < 8 → ∀ n, n < 4 → ∀ i, i < 12 → (krh h (n + 1) >>> (nI i &&& 31)) &&& 1 = fX10_has (krh h (n + 1)) (nI i) := by decide +kernel
theorem kb_0sh : ∀ t, t < 5 → (0 : Int32) <<< (nI t &&& 31) = 0 := by decide +kernel
theorem kb_has01 (a b : Int32) : fX10_has a b = 0 ∨ fX10_has a b = 1 := by
  unfold fX10_has; split
  · exact Or.inl rfl
  · exact Or.inr rfl
section JM2
variable {N : Nat} {G : kg_G} {T np : Nat} {q : Nat → tk_Q} {D : jD}
theorem m_hoursOf (h : jM N G T np q D) {t : Nat} (ht : t < T) : fX11_hoursOf G (nI t) = some (tk_runningHours (q t)) := by
  unfold fX11_hoursOf tk_runningHours
  rw [mr_hours h ht, Option.bind_some, mr_hour h ht, Option.bind_some]
theorem m_busyBy (h : jM N G T np q D) {t : Nat} (ht : t < T) : fX11_busyBy G (nI t) = some (tk_busyHours (q t)) := by
  have hq := h.2.1.2.2.2 t ht
  unfold fX11_busyBy tk_busyHours tk_restHours
  simp only [m_hoursOf h ht, mr_kind h ht, Option.bind_some, tk_kind3 hq]
  obtain ⟨_, hh, n, d, h1, h2, h3, h4, e⟩ := hq
  unfold tk_runningHours
  rw [e]
  obtain ⟨n, rfl⟩ : ∃ n', n = n' + 1 := ⟨n - 1, by omega⟩
  split
  · rw [kb_busy hh h1 n (by omega)]
  · rw [i_add0]
theorem m_clash (h : jM N G T np q D) {t u : Nat} (ht : t < T) (hu : u < T) : fX11_clash G (nI t) (nI u) = some (if jcl q t u then 1 else 0) := by
  have := h.2.1.1
  unfold fX11_clash jcl
  have e1 := kn_eq (a := t) (b := u) (by omega) (by omega)
  simp only [e1, m_busyBy h ht, m_busyBy h hu, Option.bind_some]
  by_cases h1 : t = u
  · simp [h1]
  · by_cases h2 : tk_busyHours (q t) &&& tk_busyHours (q u) = 0
    · simp [h1, h2]
    · simp [h1, h2]
theorem m_clashSet (h : jM N G T np q D) {t : Nat} (ht : t < T) : fX11_clashSet N G (nI t) = some (nI (kset (jcl q t) T)) := by
  have h5 := h.2.1.1
  refine kl_bits (fun n a i => fX11_clashSet_4 N G n (nI t) a i) (jcl q t) T h5 (n := N) (by have := h.2.2.2.2.2; omega) ?_ ?_
  · intro n a
    show fX11_clashSet_4 N G (n + 1) (nI t) a (nI T) = _
    rw [fX11_clashSet_4, m_T h, if_pos (by rw [kn_le (by omega) (by omega)]; omega)]
  · intro n a j hj
    show fX11_clashSet_4 N G (n + 1) (nI t) a (nI j) = fX11_clashSet_4 N G n (nI t) _ _
    rw [fX11_clashSet_4, m_T h, if_neg (m_loop (by omega) hj), m_clash h ht hj, Option.bind_some, kn_succ, i_or0]
    by_cases hb : jcl q t j = true
    · simp [hb]
    · simp [hb]
theorem jcs32 (hV : jV T np D) {t : Nat} (ht : t < 5) : jcs D t < 32 := (hV.2.2.1 t ht).1
theorem m_castSet (h : jM N G T np q D) {p : Nat} (hp : p < 5) : fX11_castSet N G (nI p) = some (nI (kset (fun t => (jcs D t).testBit p) 5)) := by
  have h5 := h.2.1.1
  have e := kset_ext (f := fun t => (jcs D t).testBit p) h5 (fun j h1 h2 => by show (jcs D j).testBit p = false; rw [(h.2.2.2.2.1.2.2.1 j h2).2.2 h1]; simp)
  refine Eq.trans (kl_bits (fun n a i => fX11_castSet_4 N G n (nI p) a i) (fun t => (jcs D t).testBit p) T h5 (n := N) (by have := h.2.2.2.2.2; omega) ?_ ?_) (by rw [e])
  · intro n a
    show fX11_castSet_4 N G (n + 1) (nI p) a (nI T) = _
    rw [fX11_castSet_4, m_T h, if_pos (by rw [kn_le (by omega) (by omega)]; omega)]
  · intro n a j hj
    show fX11_castSet_4 N G (n + 1) (nI p) a (nI j) = fX11_castSet_4 N G n (nI p) _ _
    rw [fX11_castSet_4, m_T h, if_neg (m_loop (by omega) hj), mc_g h hj, Option.bind_some, kn_succ, kb_sh _ (jcs32 h.2.2.2.2.1 (by omega)) p hp]
    by_cases hb : (jcs D j).testBit p = true
    · rw [if_pos hb, if_pos hb]
    · rw [if_neg hb, if_neg hb, kb_0sh j (by omega), i_or0]
theorem m_busySet (h : jM N G T np q D) {p : Nat} (hp : p < 5) : fX11_busySet N G (nI p) = some (jbusy q (fun t => (jcs D t).testBit p) T) := by
  have h5 := h.2.1.1
  refine kl_fold (fun n a i => fX11_busySet_4 N G n (nI p) a i) _ T some (n := N) (by have := h.2.2.2.2.2; omega) ?_ ?_
  · intro n a
    show fX11_busySet_4 N G (n + 1) (nI p) a (nI T) = _
    rw [fX11_busySet_4, m_T h, if_pos (by rw [kn_le (by omega) (by omega)]; omega)]
  · intro n a j hj
    show fX11_busySet_4 N G (n + 1) (nI p) a (nI j) = fX11_busySet_4 N G n (nI p) _ _
    rw [fX11_busySet_4, m_T h, if_neg (m_loop (by omega) hj), mc_g h hj, Option.bind_some, kn_succ, kb_sh _ (jcs32 h.2.2.2.2.1 (by omega)) p hp, m_busyBy h hj, Option.bind_some, i_or0]
    by_cases hb : (jcs D j).testBit p = true
    · simp [hb]
    · simp [hb]
theorem m_doneNow (h : jM N G T np q D) : fX11_doneNow N G = some (jdn q D T) := by
  have h5 := h.2.1.1
  refine kl_fold (fun n a i => fX11_doneNow_4 N G n a i) _ T some (n := N) (by have := h.2.2.2.2.2; omega) ?_ ?_
  · intro n a
    show fX11_doneNow_4 N G (n + 1) a (nI T) = _
    rw [fX11_doneNow_4, m_T h, if_pos (by rw [kn_le (by omega) (by omega)]; omega)]
  · intro n a j hj
    show fX11_doneNow_4 N G (n + 1) a (nI j) = fX11_doneNow_4 N G n _ _
    have hc := h.2.2.2.2.1.2.2.1 j (by omega)
    rw [fX11_doneNow_4, m_T h, if_neg (m_loop (by omega) hj), mc_g h hj, Option.bind_some, kn_succ, m_isDoneBy h hj hc.1 hc.2.1, Option.bind_some, i_add0]
    by_cases hb : jdone (q j) (jst D) (jcs D j) = true
    · simp [hb]
    · simp [hb]
theorem jrun_sh {q : tk_Q} (hq : jq q) {i : Nat} (hi : i < 12) : (tk_runningHours q >>> (nI i &&& 31)) &&& 1 = if jrun q i then 1 else 0 := by
  have e1 : (tk_runningHours q >>> (nI i &&& 31)) &&& 1 = fX10_has (tk_runningHours q) (nI i) := by
    obtain ⟨_, hh, n, d, h1, h2, h3, h4, e⟩ := hq
    unfold tk_runningHours
    rw [e]
    obtain ⟨n, rfl⟩ : ∃ n', n = n' + 1 := ⟨n - 1, by omega⟩
    exact kb_run hh h1 n (by omega) i hi
  rw [e1]; unfold jrun
  rcases kb_has01 (tk_runningHours q) (nI i) with x | x <;> rw [x] <;> simp
theorem m_wantsAt (h : jM N G T np q D) {i : Nat} (hi : i < 12) : fX11_wantsAt N G (nI i) = some (jwa q T i) := by
  have h5 := h.2.1.1
  refine kl_fold (fun n a j => fX11_wantsAt_4 N G n (nI i) a j) _ T some (n := N) (by have := h.2.2.2.2.2; omega) ?_ ?_
  · intro n a
    show fX11_wantsAt_4 N G (n + 1) (nI i) a (nI T) = _
    rw [fX11_wantsAt_4, m_T h, if_pos (by rw [kn_le (by omega) (by omega)]; omega)]
  · intro n a j hj
    show fX11_wantsAt_4 N G (n + 1) (nI i) a (nI j) = fX11_wantsAt_4 N G n (nI i) _ _
    rw [fX11_wantsAt_4, m_T h, if_neg (m_loop (by omega) hj), m_hoursOf h hj, Option.bind_some, m_wantsOf h hj, Option.bind_some, kn_succ, jrun_sh (h.2.1.2.2.2 j hj) hi]
    by_cases hb : jrun (q j) i = true
    · rw [if_pos hb, if_pos hb, i_mul1]
    · rw [if_neg hb, if_neg hb, i_mul0, i_add0]
theorem m_bound (h : jM N G T np q D) : fX11_bound N G = some (jbd q T) := by
  refine kl_fold (fun n a j => fX11_bound_4 N G n a j) _ 12 some (n := N) (by have := h.2.2.2.2.2; omega) ?_ ?_
  · intro n a; rfl
  · intro n a j hj
    show fX11_bound_4 N G (n + 1) a (nI j) = fX11_bound_4 N G n _ _
    have q1 : ¬ (12 : Int32) ≤ nI j := m_loop (m := 12) (by omega) hj
    rw [fX11_bound_4, if_neg q1, m_wantsAt h hj, Option.bind_some, kn_succ]
    split <;> rfl
end JM2
