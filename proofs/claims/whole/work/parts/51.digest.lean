/-! DIGEST -/
def dA (h : Int64) (v : Int32) : Int64 := (31 * h) + v.toInt64
def dT (G : kg_G) (t b : Nat) : Int32 := (fX10_trick kN G (nI t) (nI b)).getD 0
def dP (G : kg_G) (t b : Nat) : Int32 := (fX10_person kN G (nI t) (nI b)).getD 0
def dC (G : kg_G) (b : Nat) : Int32 := (fX10_count kN G (nI b)).getD 0
section JDG
variable {G : kg_G} {T np : Nat} {q : Nat → tk_Q} {D : jD}
theorem d_lt {m j : Nat} (hm : m < 100) (hj : j ≤ m) : ¬ nI m < nI j := by rw [kn_lt (by omega) (by omega)]; omega
theorem jM_h (hM : jM kN G T np q D) (c : Int64) : jM kN (kg_h G c) T np q D := hM
theorem dT_x (hX : jX kN G T np q D) (hM : jM kN G T np q D) {t : Nat} (ht : t < T) (b : Nat) (c : Int64) : fX10_trick kN G (nI t) (nI b) = some (dT G t b) ∧ fX11_tellTrick kN (kg_h G c) (nI t) (nI b) = some (dT G t b) := by
  obtain ⟨r, e1, e2⟩ := tell_trick hX (jM_h hM c) ht (nI b)
  unfold dT
  rw [e1]
  exact ⟨rfl, e2⟩
theorem dP_x (hX : jX kN G T np q D) (hM : jM kN G T np q D) {t : Nat} (ht : t < np) (b : Nat) (c : Int64) : fX10_person kN G (nI t) (nI b) = some (dP G t b) ∧ fX11_tellPerson kN (kg_h G c) (nI t) (nI b) = some (dP G t b) := by
  obtain ⟨r, e1, e2⟩ := tell_person hX (jM_h hM c) ht (nI b)
  unfold dP
  rw [e1]
  exact ⟨rfl, e2⟩
/-- the digest's five stages -/
def d1 (G : kg_G) (T : Nat) (h : Int64) : Int64 := kfo (fun t a => kfo (fun b a => dA a (dT G t b)) 9 a) T h
def d2 (G : kg_G) (np : Nat) (h : Int64) : Int64 := kfo (fun t a => kfo (fun b a => dA a (dP G t b)) 8 a) np h
def d3 (q : Nat → tk_Q) (T : Nat) (h : Int64) : Int64 := if T = 0 then h else kfo (fun t a => dA a (jwa q T t)) 12 h
def d4 (D : jD) (h : Int64) : Int64 := if jk D = 0 then h else dA (dA h (kmv (jah D (jk D) 5))) (kfm (jah D (jk D) 5))
theorem dx1 (hX : jX kN G T np q D) (hM : jM kN G T np q D) (h : Int64) : fX10_digestOfShow_5 kN G kN h 0 = fX10_digestOfShow_59 kN G kN (d1 G T h) 0 := by
  have hX' := hX
  obtain ⟨hL, hU, ⟨t0, ws, x, hb, hta, hl, hx⟩, hT, hV, hN⟩ := hX
  have h5 := hU.1
  refine kl_fold (fun n a i => fX10_digestOfShow_5 kN G n a i) (fun t a => kfo (fun b a => dA a (dT G t b)) 9 a) T (fun a => fX10_digestOfShow_59 kN G kN a 0) (n := kN) (by have := kN_gt; omega) ?_ ?_
  · intro n a
    show fX10_digestOfShow_5 kN G (n + 1) a (nI T) = _
    rw [fX10_digestOfShow_5, hb, Option.bind_some, hta, Option.bind_some, hl, if_pos (by rw [kn_le (by omega) (by omega)]; omega)]
  · intro n a j hj
    show fX10_digestOfShow_5 kN G (n + 1) a (nI j) = fX10_digestOfShow_5 kN G n _ _
    rw [fX10_digestOfShow_5, hb, Option.bind_some, hta, Option.bind_some, hl, if_neg (m_loop (by omega) hj)]
    refine kl_fold (fun m c i => fX10_digestOfShow_21 kN G (fX10_digestOfShow_5 kN G n) m c (nI j) i) (fun b a => dA a (dT G j b)) 9 (fun c => fX10_digestOfShow_5 kN G n c (nI (j + 1))) (n := kN) (by have := kN_gt; omega) ?_ ?_
    · intro m c
      show fX10_digestOfShow_21 kN G (fX10_digestOfShow_5 kN G n) (m + 1) c (nI j) (nI 9) = _
      rw [fX10_digestOfShow_21, if_pos (by decide), kn_succ]
    · intro m c b hb9
      show fX10_digestOfShow_21 kN G (fX10_digestOfShow_5 kN G n) (m + 1) c (nI j) (nI b) = fX10_digestOfShow_21 kN G (fX10_digestOfShow_5 kN G n) m _ (nI j) (nI (b + 1))
      have q1 : ¬ (8 : Int32) < nI b := d_lt (m := 8) (by omega) (by omega)
      rw [fX10_digestOfShow_21, if_neg q1, (dT_x hX' hM hj b 0).1, Option.bind_some, kn_succ]
      rfl
theorem dm1 (hX : jX kN G T np q D) (hM : jM kN G T np q D) (h : Int64) : fX11_digest_9 kN kN (kg_h G h) 0 = fX11_digest_50 kN kN (kg_h G (d1 G T h)) 0 := by
  have h5 := hM.2.1.1
  refine kl_fold (fun n a i => fX11_digest_9 kN n (kg_h G a) i) (fun t a => kfo (fun b a => dA a (dT G t b)) 9 a) T (fun a => fX11_digest_50 kN kN (kg_h G a) 0) (n := kN) (by have := kN_gt; omega) ?_ ?_
  · intro n a
    show fX11_digest_9 kN (n + 1) (kg_h G a) (nI T) = _
    have gT : (kg_h G a).1 28 3 = nI T := hM.2.2.1.1
    rw [fX11_digest_9, gT, if_pos (by rw [kn_le (by omega) (by omega)]; omega)]
  · intro n a j hj
    show fX11_digest_9 kN (n + 1) (kg_h G a) (nI j) = fX11_digest_9 kN n (kg_h G _) _
    have gT : (kg_h G a).1 28 3 = nI T := hM.2.2.1.1
    rw [fX11_digest_9, gT, if_neg (m_loop (by omega) hj)]
    refine kl_fold (fun m c i => fX11_digest_19 kN (fX11_digest_9 kN n) m (kg_h G c) (nI j) i) (fun b a => dA a (dT G j b)) 9 (fun c => fX11_digest_9 kN n (kg_h G c) (nI (j + 1))) (n := kN) (by have := kN_gt; omega) ?_ ?_
    · intro m c
      show fX11_digest_19 kN (fX11_digest_9 kN n) (m + 1) (kg_h G c) (nI j) (nI 9) = _
      rw [fX11_digest_19, if_pos (by decide), kn_succ]
    · intro m c b hb9
      show fX11_digest_19 kN (fX11_digest_9 kN n) (m + 1) (kg_h G c) (nI j) (nI b) = fX11_digest_19 kN (fX11_digest_9 kN n) m (kg_h G _) (nI j) (nI (b + 1))
      have q1 : ¬ (9 : Int32) ≤ nI b := m_loop (m := 9) (by omega) hb9
      have e : fX11_tellTrick kN (kg_h G c) (nI j) (nI b) = some (dT G j b) := (dT_x hX hM hj b c).2
      rw [fX11_digest_19, if_neg q1, e, Option.bind_some, kn_succ]
      rfl
theorem dx2 (hX : jX kN G T np q D) (hM : jM kN G T np q D) (h : Int64) : fX10_digestOfShow_59 kN G kN h 0 = if T = 0 then fX10_digestOfShow_146 kN G (d2 G np h) else fX10_digestOfShow_119 kN G kN (d2 G np h) 0 := by
  have hX' := hX
  obtain ⟨hL, hU, ⟨t0, ws, x, hb, hta, hl, hx⟩, hT, hV, hN⟩ := hX
  have h5 := hU.2.1
  refine kl_fold (fun n a i => fX10_digestOfShow_59 kN G n a i) (fun t a => kfo (fun b a => dA a (dP G t b)) 8 a) np (fun a => if T = 0 then fX10_digestOfShow_146 kN G a else fX10_digestOfShow_119 kN G kN a 0) (n := kN) (by have := kN_gt; omega) ?_ ?_
  · intro n a
    show fX10_digestOfShow_59 kN G (n + 1) a (nI np) = _
    rw [fX10_digestOfShow_59, hb, Option.bind_some, if_pos (by rw [kn_le (by omega) (by omega)]; omega), x_hasShow hX', Option.bind_some]
    by_cases z : T = 0
    · simp [z]
    · simp [z]
  · intro n a j hj
    show fX10_digestOfShow_59 kN G (n + 1) a (nI j) = fX10_digestOfShow_59 kN G n _ _
    rw [fX10_digestOfShow_59, hb, Option.bind_some, if_neg (m_loop (by omega) hj)]
    refine kl_fold (fun m c i => fX10_digestOfShow_74 kN G (fX10_digestOfShow_59 kN G n) m c (nI j) i) (fun b a => dA a (dP G j b)) 8 (fun c => fX10_digestOfShow_59 kN G n c (nI (j + 1))) (n := kN) (by have := kN_gt; omega) ?_ ?_
    · intro m c
      show fX10_digestOfShow_74 kN G (fX10_digestOfShow_59 kN G n) (m + 1) c (nI j) (nI 8) = _
      rw [fX10_digestOfShow_74, if_pos (by decide), kn_succ]
    · intro m c b hb9
      show fX10_digestOfShow_74 kN G (fX10_digestOfShow_59 kN G n) (m + 1) c (nI j) (nI b) = fX10_digestOfShow_74 kN G (fX10_digestOfShow_59 kN G n) m _ (nI j) (nI (b + 1))
      have q1 : ¬ (7 : Int32) < nI b := d_lt (m := 7) (by omega) (by omega)
      rw [fX10_digestOfShow_74, if_neg q1, (dP_x hX' hM hj b 0).1, Option.bind_some, kn_succ]
      rfl
theorem dm2 (hX : jX kN G T np q D) (hM : jM kN G T np q D) (h : Int64) : fX11_digest_50 kN kN (kg_h G h) 0 = fX11_digest_91 kN kN (kg_h G (d2 G np h)) 0 := by
  have h5 := hM.2.1.2.1
  refine kl_fold (fun n a i => fX11_digest_50 kN n (kg_h G a) i) (fun t a => kfo (fun b a => dA a (dP G t b)) 8 a) np (fun a => fX11_digest_91 kN kN (kg_h G a) 0) (n := kN) (by have := kN_gt; omega) ?_ ?_
  · intro n a
    show fX11_digest_50 kN (n + 1) (kg_h G a) (nI np) = _
    have gT : (kg_h G a).1 28 4 = nI np := hM.2.2.1.2.1
    rw [fX11_digest_50, gT, if_pos (by rw [kn_le (by omega) (by omega)]; omega)]
  · intro n a j hj
    show fX11_digest_50 kN (n + 1) (kg_h G a) (nI j) = fX11_digest_50 kN n (kg_h G _) _
    have gT : (kg_h G a).1 28 4 = nI np := hM.2.2.1.2.1
    rw [fX11_digest_50, gT, if_neg (m_loop (by omega) hj)]
    refine kl_fold (fun m c i => fX11_digest_60 kN (fX11_digest_50 kN n) m (kg_h G c) (nI j) i) (fun b a => dA a (dP G j b)) 8 (fun c => fX11_digest_50 kN n (kg_h G c) (nI (j + 1))) (n := kN) (by have := kN_gt; omega) ?_ ?_
    · intro m c
      show fX11_digest_60 kN (fX11_digest_50 kN n) (m + 1) (kg_h G c) (nI j) (nI 8) = _
      rw [fX11_digest_60, if_pos (by decide), kn_succ]
    · intro m c b hb9
      show fX11_digest_60 kN (fX11_digest_50 kN n) (m + 1) (kg_h G c) (nI j) (nI b) = fX11_digest_60 kN (fX11_digest_50 kN n) m (kg_h G _) (nI j) (nI (b + 1))
      have q1 : ¬ (8 : Int32) ≤ nI b := m_loop (m := 8) (by omega) hb9
      have e : fX11_tellPerson kN (kg_h G c) (nI j) (nI b) = some (dP G j b) := (dP_x hX hM hj b c).2
      rw [fX11_digest_60, if_neg q1, e, Option.bind_some, kn_succ]
      rfl
theorem dx3 (hX : jX kN G T np q D) (hT : T ≠ 0) (h : Int64) : fX10_digestOfShow_119 kN G kN h 0 = fX10_digestOfShow_146 kN G (kfo (fun t a => dA a (jwa q T t)) 12 h) := by
  obtain ⟨t0, ws, x, hb, hta, hl, hx⟩ := hX.2.2.1
  refine kl_fold (fun n a i => fX10_digestOfShow_119 kN G n a i) (fun t a => dA a (jwa q T t)) 12 (fun a => fX10_digestOfShow_146 kN G a) (n := kN) (by have := kN_gt; omega) ?_ ?_
  · intro n a
    show fX10_digestOfShow_119 kN G (n + 1) a (nI 12) = _
    rw [fX10_digestOfShow_119, if_pos (by decide)]
  · intro n a j hj
    show fX10_digestOfShow_119 kN G (n + 1) a (nI j) = fX10_digestOfShow_119 kN G n _ _
    have q1 : ¬ (11 : Int32) < nI j := d_lt (m := 11) (by omega) (by omega)
    have q2 : nI j ≤ (11 : Int32) := by
      show nI j ≤ nI 11
      rw [kn_le (by omega) (by omega)]; omega
    have e : fX10_wants kN G (nI j) = some (jwa q T j) := by
      unfold fX10_wants
      rw [if_neg (kn_neg (by omega)), if_pos q2, x_hasShow hX, if_neg hT, Option.bind_some, if_neg (by decide), hb, Option.bind_some, x_wantedIn hX]
      rfl
    rw [fX10_digestOfShow_119, if_neg q1, e, Option.bind_some, kn_succ]
    rfl
theorem dm3 (hM : jM kN G T np q D) (h : Int64) : fX11_digest_91 kN kN (kg_h G h) 0 = fX11_digest_120 kN (kg_h G (d3 q T h)) := by
  unfold d3
  by_cases hT : T = 0
  · rw [if_pos hT]
    have e : kN = 999999999999 + 1 := rfl
    show fX11_digest_91 kN (999999999999 + 1) (kg_h G h) 0 = _
    rw [fX11_digest_91, if_neg (by decide), m_lacks (jM_h hM h), if_pos hT, if_neg (by decide)]
  · rw [if_neg hT]
    refine kl_fold (fun n a i => fX11_digest_91 kN n (kg_h G a) i) (fun t a => dA a (jwa q T t)) 12 (fun a => fX11_digest_120 kN (kg_h G a)) (n := kN) (by have := kN_gt; omega) ?_ ?_
    · intro n a
      show fX11_digest_91 kN (n + 1) (kg_h G a) (nI 12) = _
      rw [fX11_digest_91, if_pos (by decide)]
    · intro n a j hj
      show fX11_digest_91 kN (n + 1) (kg_h G a) (nI j) = fX11_digest_91 kN n (kg_h G _) _
      have q1 : ¬ (12 : Int32) ≤ nI j := m_loop (m := 12) (by omega) hj
      rw [fX11_digest_91, if_neg q1, m_lacks (jM_h hM a), if_neg hT, if_pos rfl, m_wantsAt (jM_h hM a) hj, Option.bind_some, kn_succ]
      rfl
end JDG
