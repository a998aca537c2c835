/-! THE CLASS'S SEARCH: prepare, openWays, stillOpen, hindersLater -/
section PL2
variable {N : Nat} {G : kg_G} {T np : Nat} {q : Nat → tk_Q} {D : jD}
theorem x_prepare (h : jX N G T np q D) (hA : G.2.1 22 = kp_T) : ∃ cs ws, cs.length = 5 ∧ ws.length = 5 ∧ fX4_prepare N G G.2.2.2.1 = some (kpp (kg_i G 17 5 (nI T)) cs ws) ∧ kpq (kpp (kg_i G 17 5 (nI T)) cs ws) T q (kA G 4) := by
  have hN := h.2.2.2.2.2
  have h5 := h.2.1.1
  obtain ⟨t0, wz, x, hb, hta, hlz, hx⟩ := h.2.2.1
  let G1 := kg_i G 17 5 (nI T)
  have hX1 : jX N G1 T np q D := jX_of h h.1 (fun _ => rfl) (fun _ _ _ => rfl) rfl
  have l21 : (G1.2.1 21).length = 5 := h.1 21 (by decide)
  have l20 : (G1.2.1 20).length = 5 := h.1 20 (by decide)
  obtain ⟨n', g, e1, cs, ws, g1, g2, g3, g4⟩ := kl_inv (fun n g i => fX4_prepare_15 N n g G.2.2.2.1 i) (fun j g => ∃ cs ws, g = kpp G1 cs ws ∧ cs.length = 5 ∧ ws.length = 5 ∧ ∀ t, t < j → cs.getD t 0 = nI (kset (jcl q t) T) ∧ ∀ s, s < 32 → ib (ws.getD t 0) s = (decide (1 ≤ s) && jdone (q t) (kA G 4) s)) T (n := N) (a := G1) (by omega) ⟨_, _, (kpp_self G1).symm, l21, l20, fun t ht => by omega⟩ (by
    intro n g j hj ⟨cs, ws, g1, g2, g3, g4⟩
    have hXg : jX N (kpp G1 cs ws) T np q D := jX_of h (jLn_a (jLn_a h.1 g2) g3) (fun _ => rfl) (fun a h1 h2 => by show (if a = 20 then ws else if a = 21 then cs else G.2.1 a) = _; rw [if_neg (by omega), if_neg (by omega)]) rfl
    have hcl : fX0_clashesOf N (kpp G1 cs ws) G.2.2.2.1 (nI j) = some (nI (kset (jcl q j) T)) := x_clashesOf hXg hj
    have hbl : kg_bl (kg_Y (kpp G1 cs ws)) G.2.2.2.1 = some (t0, nI np) := hb
    have g5 : (kpp G1 cs ws).1 17 5 = nI T := rfl
    have gc : (kpp G1 cs ws).2.1 21 = cs := rfl
    have gw : (kpp G1 cs ws).2.1 20 = ws := rfl
    obtain ⟨w, w1, w2⟩ := x_prep44 hX1 (cs := cs.set j (nI (kset (jcl q j) T))) (ws := ws.set j 0) (by rw [List.length_set, g2]) (by rw [List.length_set, g3]) hj (by rw [getD_set (by omega), if_pos rfl]) (fX4_prepare_15 N n)
    refine ⟨_, ?_, cs.set j (nI (kset (jcl q j) T)), (ws.set j 0).set j w, rfl, by rw [List.length_set, g2], by rw [List.length_set, List.length_set, g3], ?_⟩
    · show fX4_prepare_15 N (n + 1) g G.2.2.2.1 (nI j) = _
      rw [g1, fX4_prepare_15, g5, if_neg (m_loop (by omega) hj), hbl, Option.bind_some, hcl, Option.bind_some, gc, kn_p (by omega) (by omega), Option.bind_some, gw, kn_p (by omega) (by omega), Option.bind_some, kpp_21, kpp_20]
      exact w2
    · intro t ht
      rw [List.set_set, getD_set (by omega), getD_set (by omega)]
      by_cases e : t = j
      · rw [if_pos e, if_pos e, e]
        exact ⟨rfl, w1⟩
      · rw [if_neg e, if_neg e]
        exact g4 t (by omega))
  refine ⟨cs, ws, g2, g3, ?_, rfl, h5, hA, g3, g2, g4⟩
  unfold fX4_prepare
  rw [hb, Option.bind_some, hta, Option.bind_some, hlz]
  have em : fJ9_min_7cf53 (nI T) 5 = nI T := by
    unfold fJ9_min_7cf53
    rw [if_neg]
    show ¬ nI 5 < nI T
    rw [kn_lt (by omega) (by omega)]; omega
  rw [em]
  refine Eq.trans e1 ?_
  show fX4_prepare_15 N (n' + 1) g G.2.2.2.1 (nI T) = _
  have g5 : (kpp G1 cs ws).1 17 5 = nI T := rfl
  rw [g1, fX4_prepare_15, g5, if_pos (by rw [kn_le (by omega) (by omega)]; omega)]
end PL2
/-- the planner while it searches -/
def kf (G : kg_G) (v : Int32) (xs ys : List Int32) : kg_G := kg_a (kg_a (kg_i G 17 7 v) 18 xs) 19 ys
theorem kf_19 (G : kg_G) (v : Int32) (xs ys ys2 : List Int32) : kg_a (kf G v xs ys) 19 ys2 = kf G v xs ys2 := kg_aa _ _ _ _
/-- the busy people of a level -/
def kbz (cl : Nat → Bool) (r : Nat → Nat) (aw : Nat) : Nat → Nat
  | 0 => aw
  | c + 1 => if cl c then kbz cl r aw c ||| r c else kbz cl r aw c
theorem kbz_lt (cl : Nat → Bool) (r : Nat → Nat) {aw : Nat} (ha : aw < 32) : ∀ c, (∀ i, i < c → r i < 32) → kbz cl r aw c < 32
  | 0, _ => ha
  | c + 1, h => by
    rw [kbz]
    have := kbz_lt cl r ha c (fun i hi => h i (by omega))
    split
    · exact kt_or2 _ this _ (h c (by omega))
    · exact this
theorem kbz_and (cl : Nat → Bool) (r : Nat → Nat) (aw s : Nat) : ∀ c, decide (s &&& kbz cl r aw c = 0) = (decide (s &&& aw = 0) && kall (fun w => !(cl w) || decide (s &&& r w = 0)) c)
  | 0 => by rw [kbz, kall, Bool.and_true]
  | c + 1 => by
    rw [kall, ← Bool.and_assoc, ← kbz_and cl r aw s c, kbz]
    cases cl c
    · simp
    · simp only [if_true, Bool.not_true, Bool.false_or]
      rw [Nat.and_or_distrib_left, ← Bool.decide_and]
      exact decide_eq_decide.mpr Nat.or_eq_zero_iff
section PL3
variable {N : Nat} {G : kg_G} {T : Nat} {q : Nat → tk_Q} {st : Nat → Int32} {aw : Nat}
theorem x_openWays (hN : 100 < N) (h : kpq G T q st) (ha : G.1 17 6 = nI aw) (ha2 : aw < 32) {v : Int32} {xs ys : List Int32} (hy : ys.length = 5) {r : Nat → Nat} {c u : Nat} (hr : ∀ i, i < c → ys.getD i 0 = nI (r i) ∧ r i < 32) (hc : c ≤ u) (hu : u < T) : ∃ x, fX4_openWays N (kf G v xs ys) (nI u) (nI c) = some x ∧ ∀ s, s < 32 → ib x s = (decide (1 ≤ s) && (sway T q st aw u s && kall (fun w => !(scl T q u w) || decide (s &&& r w = 0)) c)) := by
  obtain ⟨p1, p2, p3, p4, p5, p6⟩ := h
  have g19 : (kf G v xs ys).2.1 19 = ys := rfl
  have g20 : (kf G v xs ys).2.1 20 = G.2.1 20 := rfl
  have g21 : (kf G v xs ys).2.1 21 = G.2.1 21 := rfl
  have g22 : (kf G v xs ys).2.1 22 = kp_T := p3
  have g6 : (kf G v xs ys).1 17 6 = nI aw := ha
  have hb := kbz_lt (scl T q u) r ha2 c (fun i hi => (hr i hi).2)
  obtain ⟨n', a', e1, e2⟩ := kl_inv (fun n a i => fX4_openWays_8 N (kf G v xs ys) n (nI u) (nI c) a i) (fun j a => a = nI (kbz (scl T q u) r aw j)) c (n := N) (a := nI aw) (by omega) rfl (by
    intro n a j hj e
    refine ⟨_, ?_, rfl⟩
    show fX4_openWays_8 N (kf G v xs ys) (n + 1) (nI u) (nI c) a (nI j) = fX4_openWays_8 N (kf G v xs ys) n (nI u) (nI c) (nI (kbz (scl T q u) r aw (j + 1))) (nI (j + 1))
    have hk : kset (jcl q u) T < 32 := kset_lt32 _ p2
    have hbit : (kset (jcl q u) T).testBit j = scl T q u j := by
      rw [kset_cut _ p2, kset_bit _ (by omega)]
      unfold scl
      simp [hu]
    rw [fX4_openWays_8, if_neg (m_loop (by omega) hj), g21, kn_g (by omega) (by omega), Option.bind_some, (p6 u hu).1, kb_has _ hk j (by omega), hbit, e, kbz, g19, kn_g (by omega) (by omega), Option.bind_some, (hr j hj).1, kn_succ, nI_or]
    by_cases z : scl T q u j = true
    · simp [z]
    · simp [z])
  refine ⟨(G.2.1 20).getD u 0 &&& kp_T.getD (kbz (scl T q u) r aw c) 0, ?_, fun s hs => ?_⟩
  · unfold fX4_openWays
    rw [g6]
    refine Eq.trans e1 ?_
    show fX4_openWays_8 N (kf G v xs ys) (n' + 1) (nI u) (nI c) a' (nI c) = _
    have l22 : kp_T.length = 32 := rfl
    rw [fX4_openWays_8, if_pos (Int32.le_refl _), g20, kn_g (by omega) (by omega), Option.bind_some, g22, e2, kn_g (by omega) (by omega), Option.bind_some]
  · rw [ib_and, (p6 u hu).2 s hs, ib_apart _ hb s hs, kbz_and]
    unfold sway
    simp [hu, Bool.and_assoc]
theorem x_stillOpen (hN : 100 < N) (h : kpq G T q st) (ha : G.1 17 6 = nI aw) (ha2 : aw < 32) {v : Int32} {xs ys : List Int32} (hy : ys.length = 5) {r : Nat → Nat} {t : Nat} (hr : ∀ i, i < t → ys.getD i 0 = nI (r i) ∧ r i < 32) : ∀ (d u n a : Nat), t ≤ u → u + d = T → d < n → fX4_stillOpen_4 N (kf G v xs ys) n (nI t) (nI a) (nI u) = some (nI (a + sO (sway T q st aw) (scl T q) t r d u))
  | 0, u, n, a, h1, h2, h3 => by
    obtain ⟨n, rfl⟩ : ∃ n', n = n' + 1 := ⟨n - 1, by omega⟩
    have g5 : (kf G v xs ys).1 17 5 = nI T := h.1
    have := h.2.1
    rw [fX4_stillOpen_4, g5, if_pos (by rw [kn_le (by omega) (by omega)]; omega)]; rfl
  | d + 1, u, n, a, h1, h2, h3 => by
    obtain ⟨n, rfl⟩ : ∃ n', n = n' + 1 := ⟨n - 1, by omega⟩
    have g5 : (kf G v xs ys).1 17 5 = nI T := h.1
    have := h.2.1
    obtain ⟨x, e1, e2⟩ := x_openWays (v := v) (xs := xs) hN h ha ha2 hy hr h1 (by omega)
    have hz : (x = 0) = (kall (fun i => !(sway T q st aw u (i + 1) && kall (fun v => !(scl T q u v) || decide ((i + 1) &&& r v = 0)) t)) 31 = true) := by
      rw [ib_eq0, kall_iff]
      refine propext ⟨fun g i hi => ?_, fun g s hs => ?_⟩
      · have := g (i + 1) (by omega)
        rw [e2 (i + 1) (by omega)] at this
        rw [Bool.not_eq_true']
        simpa using this
      · rw [e2 s hs]
        by_cases z : 1 ≤ s
        · have := g (s - 1) (by omega)
          rw [Nat.sub_add_cancel z] at this
          rw [Bool.not_eq_true'] at this
          rw [this, Bool.and_false]
        · simp [z]
    rw [fX4_stillOpen_4, g5, if_neg (m_loop (by omega) (by omega)), e1, Option.bind_some, kn_succ, kn_succ, x_stillOpen hN h ha ha2 hy hr d (u + 1) n a (by omega) (by omega) (by omega), x_stillOpen hN h ha ha2 hy hr d (u + 1) n (a + 1) (by omega) (by omega) (by omega), sO]
    simp only [hz]
    split
    · rfl
    · rw [Nat.add_assoc, Nat.add_comm 1]
theorem kb_hl : ∀ m, m < 32 → ∀ t, t < 5 → ((((Int32.toUInt32 (nI m)) >>> ((Int32.toUInt32 (nI t + 1)) &&& Int32.toUInt32 31)).toInt32) = 0) → ∀ u, u < 5 → t < u → m.testBit u = false := by decide +kernel
theorem x_hinders (h : kpq G T q st) {v : Int32} {xs ys : List Int32} {t : Nat} (ht : t < T) : ∃ b : Bool, fX4_hindersLater (kf G v xs ys) (nI t) = some (if b then 1 else 0) ∧ (b = false → ∀ u, t < u → scl T q u t = false) := by
  obtain ⟨p1, p2, p3, p4, p5, p6⟩ := h
  have g21 : (kf G v xs ys).2.1 21 = G.2.1 21 := rfl
  have hk : kset (jcl q t) T < 32 := kset_lt32 _ p2
  refine ⟨!(decide ((((Int32.toUInt32 (nI (kset (jcl q t) T))) >>> ((Int32.toUInt32 (nI t + 1)) &&& Int32.toUInt32 31)).toInt32) = 0)), ?_, ?_⟩
  · unfold fX4_hindersLater
    rw [g21, kn_g (by omega) (by omega), Option.bind_some, (p6 t ht).1]
    by_cases z : (((Int32.toUInt32 (nI (kset (jcl q t) T))) >>> ((Int32.toUInt32 (nI t + 1)) &&& Int32.toUInt32 31)).toInt32) = 0
    · rw [if_pos z, decide_eq_true z]; rfl
    · rw [if_neg z, decide_eq_false z]; rfl
  · intro z u hu
    have z' : (((Int32.toUInt32 (nI (kset (jcl q t) T))) >>> ((Int32.toUInt32 (nI t + 1)) &&& Int32.toUInt32 31)).toInt32) = 0 := by
      rw [Bool.not_eq_false'] at z
      exact of_decide_eq_true z
    unfold scl
    by_cases hT : u < T
    · have := kb_hl _ hk t (by omega) z' u (by omega) hu
      rw [kset_cut _ p2, kset_bit _ (by omega)] at this
      rw [jcl_comm]
      simp [hT] at this
      simp [this]
    · simp [hT]
end PL3
