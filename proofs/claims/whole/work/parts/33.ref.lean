/-! CLOSED FORMS of the reference's helps -/
def jM (N : Nat) (G : kg_G) (T np : Nat) (q : Nat → tk_Q) (D : jD) : Prop := jLn G ∧ jU T np q ∧ jR G T np q ∧ jTM G T np 31 32 38 jmc D ∧ jV T np D ∧ 100 < N
section JM
variable {N : Nat} {G : kg_G} {T np : Nat} {q : Nat → tk_Q} {D : jD}
theorem jk32 (hV : jV T np D) (hU : jU T np q) : jk D < 32 := Nat.lt_of_lt_of_le hV.1 (Nat.pow_le_pow_right (by decide) hU.2.1)
theorem jk_hi (hV : jV T np D) (hU : jU T np q) {p : Nat} (h : np ≤ p) (hp : p < 5) : (jk D).testBit p = false := kb_hi np (by have := hU.2.1; omega) _ hV.1 p hp h
theorem jk_np (hV : jV T np D) (hU : jU T np q) {p : Nat} (hp : p < 5) (hb : (jk D).testBit p = true) : p < np := by
  by_cases h : np ≤ p
  · rw [jk_hi hV hU h hp] at hb; cases hb
  · omega
theorem mr_kind (h : jM N G T np q D) {t : Nat} (ht : t < T) : kv_g (G.2.1 30) (4 * nI t) = some (tk_kind (q t)) := by
  obtain ⟨hL, hU, hR, _⟩ := h
  have := hU.1
  rw [kn_4, kA_g hL (by decide) (by show _ < 20; omega), (hR.2.2 t ht).1]
theorem mr_hour (h : jM N G T np q D) {t : Nat} (ht : t < T) : kv_g (G.2.1 30) (4 * nI t + 1) = some (q t).2.1 := by
  obtain ⟨hL, hU, hR, _⟩ := h
  have := hU.1
  rw [kn_4, kn_succ, kA_g hL (by decide) (by show _ < 20; omega), (hR.2.2 t ht).2.1]
theorem mr_hours (h : jM N G T np q D) {t : Nat} (ht : t < T) : kv_g (G.2.1 30) (4 * nI t + 2) = some (q t).2.2.1 := by
  obtain ⟨hL, hU, hR, _⟩ := h
  have := hU.1
  rw [kn_4, kn_p2, kA_g hL (by decide) (by show _ < 20; omega), (hR.2.2 t ht).2.2.1]
theorem mr_need (h : jM N G T np q D) {t : Nat} (ht : t < T) : kv_g (G.2.1 30) (4 * nI t + 3) = some (q t).2.2.2 := by
  obtain ⟨hL, hU, hR, _⟩ := h
  have := hU.1
  rw [kn_4, kn_p3, kA_g hL (by decide) (by show _ < 20; omega), (hR.2.2 t ht).2.2.2]
theorem mf_0 (h : jM N G T np q D) {p : Nat} (hp : p < np) : kv_g (G.2.1 31) (3 * nI p) = some (if (jk D).testBit p then jst D p else -1) := by
  obtain ⟨hL, hU, _, hT, _, _⟩ := h
  have := hU.2.1
  rw [kn_3, kA_g hL (by decide) (by show _ < 15; omega), (hT.1 p hp).1]
theorem mf_1 (h : jM N G T np q D) {p : Nat} (hp : p < np) : kv_g (G.2.1 31) (3 * nI p + 1) = some (if (jk D).testBit p then jtw D p else -1) := by
  obtain ⟨hL, hU, _, hT, _, _⟩ := h
  have := hU.2.1
  rw [kn_3, kn_succ, kA_g hL (by decide) (by show _ < 15; omega), (hT.1 p hp).2.1]
theorem mf_2 (h : jM N G T np q D) {p : Nat} (hp : p < np) : kv_g (G.2.1 31) (3 * nI p + 2) = some (if (jk D).testBit p then jhd D p else 0) := by
  obtain ⟨hL, hU, _, hT, _, _⟩ := h
  have := hU.2.1
  rw [kn_3, kn_p2, kA_g hL (by decide) (by show _ < 15; omega), (hT.1 p hp).2.2]
theorem mc_g (h : jM N G T np q D) {t : Nat} (ht : t < T) : kv_g (G.2.1 32) (nI t) = some (nI (jcs D t)) := by
  obtain ⟨hL, hU, _, hT, _, _⟩ := h
  have := hU.1
  rw [kA_g hL (by decide) (by show _ < 5; omega), hT.2.1 t ht]
theorem m_isKept (h : jM N G T np q D) {p : Nat} (hp : p < np) : fX11_isKept G (nI p) = some (if (jk D).testBit p then 1 else 0) := by
  unfold fX11_isKept
  rw [mf_1 h hp, Option.bind_some]
  have hV := h.2.2.2.2.1
  have h5 := h.2.1.2.1
  by_cases hb : (jk D).testBit p = true
  · obtain ⟨w, hw, e⟩ := (hV.2.1 p (by omega) hb).2
    rw [if_pos hb, if_pos hb, e, if_neg]
    intro x
    have := kn_neg (n := w) (by omega)
    rw [x] at this
    exact this (by decide)
  · rw [if_neg hb, if_neg hb]; rfl
theorem m_np (h : jM N G T np q D) : G.1 28 4 = nI np := h.2.2.1.2.1
theorem m_T (h : jM N G T np q D) : G.1 28 3 = nI T := h.2.2.1.1
theorem i_or0 (a : Int32) : a ||| 0 = a := Int32.or_zero
theorem m_loop {m j : Nat} (hm : m < 100) (hj : j < m) : ¬ nI m ≤ nI j := by
  rw [kn_le (by omega) (by omega)]; omega
theorem m_keptSet (h : jM N G T np q D) : fX11_keptSet N G = some (nI (jk D)) := by
  have h5 := h.2.1.2.1
  have e := kset_self np (by omega) _ h.2.2.2.2.1.1
  refine Eq.trans (kl_bits (fun n a i => fX11_keptSet_4 N G n a i) (jk D).testBit np h5 (n := N) (by have := h.2.2.2.2.2; omega) ?_ ?_) (by rw [e])
  · intro n a
    show fX11_keptSet_4 N G (n + 1) a (nI np) = _
    rw [fX11_keptSet_4, m_np h, if_pos (by rw [kn_le (by omega) (by omega)]; omega)]
  · intro n a j hj
    show fX11_keptSet_4 N G (n + 1) a (nI j) = fX11_keptSet_4 N G n _ _
    rw [fX11_keptSet_4, m_np h, if_neg (m_loop (by omega) hj), m_isKept h hj, Option.bind_some, kn_succ, i_or0]
    by_cases hb : (jk D).testBit j = true
    · simp [hb]
    · simp [hb]
theorem tk_kind4 {q : tk_Q} (hq : jq q) : (tk_kind q = 4) = (q.1 = 5) := by
  unfold tk_kind
  rcases hq.1 with h | h | h | h | h <;> rw [h] <;> decide
theorem tk_kind1 {q : tk_Q} (hq : jq q) : (tk_kind q = 1) = (q.1 = 3) := by
  unfold tk_kind
  rcases hq.1 with h | h | h | h | h <;> rw [h] <;> decide
theorem tk_kind2 {q : tk_Q} (hq : jq q) : (tk_kind q = 2) = (q.1 = 6) := by
  unfold tk_kind
  rcases hq.1 with h | h | h | h | h <;> rw [h] <;> decide
theorem tk_kind3 {q : tk_Q} (hq : jq q) : (tk_kind q = 3) = (q.1 = 1) := by
  unfold tk_kind
  rcases hq.1 with h | h | h | h | h <;> rw [h] <;> decide
theorem m_wantsOf (h : jM N G T np q D) {t : Nat} (ht : t < T) : fX11_wantsOf G (nI t) = some (tk_crew (q t)) := by
  unfold fX11_wantsOf tk_crew
  have hq := h.2.1.2.2.2 t ht
  simp only [mr_kind h ht, Option.bind_some, tk_kind1 hq, tk_kind4 hq]
  split
  · rfl
  · split <;> rfl
theorem m_fitsBy (h : jM N G T np q D) {t : Nat} (ht : t < T) (s : Int32) : fX11_fitsBy G s (nI t) = some (if jsu (q t) s then 1 else 0) := by
  rw [← jsu_if]
  unfold fX11_fitsBy tk_suits
  have hq := h.2.1.2.2.2 t ht
  simp only [mr_kind h ht, mr_need h ht, Option.bind_some, tk_kind2 hq, tk_kind4 hq]
  split
  · rfl
  · split
    · split <;> rfl
    · split <;> rfl
def jfit (q : tk_Q) (D : jD) : Nat → Bool := fun p => (jk D).testBit p && jsu q (jst D p)
theorem m_fittingSet (h : jM N G T np q D) {t : Nat} (ht : t < T) : fX11_fittingSet N G (nI t) = some (nI (kset (jfit (q t) D) 5)) := by
  have h5 := h.2.1.2.1
  have e := kset_ext (f := jfit (q t) D) h5 (fun j h1 h2 => by unfold jfit; rw [jk_hi h.2.2.2.2.1 h.2.1 h1 h2]; rfl)
  refine Eq.trans (kl_bits (fun n a i => fX11_fittingSet_4 N G n (nI t) a i) (jfit (q t) D) np h5 (n := N) (by have := h.2.2.2.2.2; omega) ?_ ?_) (by rw [e])
  · intro n a
    show fX11_fittingSet_4 N G (n + 1) (nI t) a (nI np) = _
    rw [fX11_fittingSet_4, m_np h, if_pos (by rw [kn_le (by omega) (by omega)]; omega)]
  · intro n a j hj
    show fX11_fittingSet_4 N G (n + 1) (nI t) a (nI j) = fX11_fittingSet_4 N G n (nI t) _ _
    rw [fX11_fittingSet_4, m_np h, if_neg (m_loop (by omega) hj), m_isKept h hj, Option.bind_some, kn_succ, i_or0, mf_0 h hj]
    unfold jfit
    by_cases hb : (jk D).testBit j = true
    · simp only [hb, if_true, Option.bind_some, m_fitsBy h ht, Bool.true_and]
      by_cases hs : jsu (q t) (jst D j) = true
      · simp [hs]
      · simp [hs]
    · simp [hb]
theorem i_mul1 (x : Int32) : 1 * x = x := Int32.one_mul x
theorem i_mul0 (x : Int32) : 0 * x = 0 := Int32.zero_mul
theorem i_add0 (x : Int32) : x + 0 = x := Int32.add_zero x
theorem m_strongAll (h : jM N G T np q D) {m : Nat} (hm : m < 32) (hs : m &&& jk D = m) : fX11_strongAll N G (nI m) = some (jsum (jst D) m) := by
  have h5 := h.2.1.2.1
  have hk := (kb_andb m hm _ (jk32 h.2.2.2.2.1 h.2.1)).mp hs
  have e : jsum (jst D) m = kfo (fun p a => if m.testBit p then a + jst D p else a) np 0 := by
    refine kfo_ext (m := np) (m' := 5) _ h5 ?_
    intro j a h1 h2
    rw [if_neg]
    intro x
    have := hk j h2 x
    rw [jk_hi h.2.2.2.2.1 h.2.1 h1 h2] at this
    cases this
  refine Eq.trans (kl_fold (fun n a i => fX11_strongAll_4 N G n (nI m) a i) (fun p a => if m.testBit p then a + jst D p else a) np some (n := N) (by have := h.2.2.2.2.2; omega) ?_ ?_) (by rw [e])
  · intro n a
    show fX11_strongAll_4 N G (n + 1) (nI m) a (nI np) = _
    rw [fX11_strongAll_4, m_np h, if_pos (by rw [kn_le (by omega) (by omega)]; omega)]
  · intro n a j hj
    show fX11_strongAll_4 N G (n + 1) (nI m) a (nI j) = fX11_strongAll_4 N G n (nI m) _ _
    rw [fX11_strongAll_4, m_np h, if_neg (m_loop (by omega) hj), mf_0 h hj, Option.bind_some, kn_succ, kb_sh m hm j (by omega)]
    by_cases hb : m.testBit j = true
    · have := hk j (by omega) hb
      rw [if_pos hb, if_pos this, if_pos hb, i_mul1]
    · rw [if_neg hb, if_neg hb, i_mul0, i_add0]
theorem kb_onesF : ∀ m, m < 32 → kfo (fun j a => a + ((nI m >>> (nI j &&& 31)) &&& 1)) 12 0 = fJ6_bitCount_0f7a4 (nI m) := by decide +kernel
theorem m_ones (hN : 100 < N) {m : Nat} (hm : m < 32) : fX11_ones N (nI m) = some (fJ6_bitCount_0f7a4 (nI m)) := by
  refine Eq.trans (kl_fold (fun n a i => fX11_ones_4 N n (nI m) a i) (fun j a => a + ((nI m >>> (nI j &&& 31)) &&& 1)) 12 some (n := N) (by omega) ?_ ?_) (by rw [kb_onesF m hm])
  · intro n a
    rfl
  · intro n a j hj
    show fX11_ones_4 N (n + 1) (nI m) a (nI j) = fX11_ones_4 N n (nI m) _ _
    have q1 : ¬ (12 : Int32) ≤ nI j := m_loop (m := 12) (by omega) hj
    rw [fX11_ones_4, if_neg q1, kn_succ]
theorem m_isDoneBy (h : jM N G T np q D) {t : Nat} (ht : t < T) {m : Nat} (hm : m < 32) (hs : m &&& jk D = m) : fX11_isDoneBy N G (nI t) (nI m) = some (if jdone (q t) (jst D) m then 1 else 0) := by
  have hq := h.2.1.2.2.2 t ht
  have hk := (kb_andb m hm _ (jk32 h.2.2.2.2.1 h.2.1)).mp hs
  have hf : ((nI m &&& (nI (kset (jfit (q t) D) 5) ^^^ (-1))) = 0) = (kall (fun p => !(m.testBit p) || jsu (q t) (jst D p)) 5 = true) := by
    refine propext ?_
    rw [kb_out m hm _ (kset_lt32 _ (Nat.le_refl 5)), kb_andb m hm _ (kset_lt32 _ (Nat.le_refl 5)), kall_iff]
    refine ⟨fun a j hj => ?_, fun a p hp hb => ?_⟩
    · by_cases hb : m.testBit j = true
      · have := a j hj hb
        rw [kset_bit _ hj] at this
        unfold jfit at this
        simp only [Bool.and_eq_true] at this
        simp [this.2]
      · simp [hb]
    · rw [kset_bit _ hp]
      have := a p hp
      unfold jfit
      simp only [hb, Bool.not_true, Bool.false_or] at this
      simp [hk p hp hb, this]
  unfold fX11_isDoneBy fX11_isDoneBy_30 fX11_isDoneBy_35 jdone
  simp only [mr_kind h ht, mr_need h ht, Option.bind_some, tk_kind4 hq, m_strongAll h hm hs, m_ones h.2.2.2.2.2 hm, m_wantsOf h ht, m_fittingSet h ht, hf]
  unfold tk_holdsWith
  by_cases h1 : fJ6_bitCount_0f7a4 (nI m) = tk_crew (q t) <;> by_cases h2 : kall (fun p => !(m.testBit p) || jsu (q t) (jst D p)) 5 = true <;> by_cases h3 : (q t).1 = 5 <;> by_cases h4 : jsum (jst D) m < (q t).2.2.2 <;> simp [h1, h2, h3, h4]
end JM
