/-! TOURS: the reference -/
def ufr (G G2 : kg_G) : Prop := jLn G2 ∧ (∀ a j, ¬ (a = 28 ∧ (j = 25 ∨ j = 29)) → G2.1 a j = G.1 a j) ∧ G2.2.2 = G.2.2 ∧ ∀ a, a ≠ 39 → a ≠ 40 → a ≠ 41 → G2.2.1 a = G.2.1 a
theorem ufr_refl {G : kg_G} (h : jLn G) : ufr G G := ⟨h, fun _ _ _ => rfl, rfl, fun _ _ _ _ => rfl⟩
theorem ufr_i {G G2 : kg_G} (h : ufr G G2) {k : Nat} (hk : k = 25 ∨ k = 29) (v : Int32) : ufr G (kg_i G2 28 k v) := by
  refine ⟨h.1, fun a j ha => ?_, h.2.2.1, h.2.2.2⟩
  show (if a = 28 then (if j = k then v else G2.1 a j) else G2.1 a j) = _
  by_cases z : a = 28
  · rw [if_pos z, if_neg (by omega)]; exact h.2.1 a j ha
  · rw [if_neg z]; exact h.2.1 a j ha
theorem ufr_a {G G2 : kg_G} (h : ufr G G2) {b : Nat} {xs : List Int32} (hb : b = 39 ∨ b = 40 ∨ b = 41) (hx : xs.length = 5) : ufr G (kg_a G2 b xs) := by
  refine ⟨jLn_a h.1 (by rcases hb with e | e | e <;> rw [e] <;> exact hx), h.2.1, h.2.2.1, fun a h1 h2 h3 => ?_⟩
  show (if a = b then xs else G2.2.1 a) = _
  rw [if_neg (by omega)]; exact h.2.2.2 a h1 h2 h3
theorem ufr_M {N : Nat} {G G1 : kg_G} {T np : Nat} {q : Nat → tk_Q} {D : jD} (h : jM N G T np q D) (hf : ufr G G1) : jM N G1 T np q D := by
  obtain ⟨h1, h2, h3, h4, h5, h6⟩ := h
  refine ⟨hf.1, h2, jR_of h3 (hf.2.1 28 3 (by omega)) (hf.2.1 28 4 (by omega)) (hf.2.2.2 30 (by decide) (by decide) (by decide)), jTM_of h4 (fun j hj1 hj2 => hf.2.1 28 _ ?_) (hf.2.2.2 31 (by decide) (by decide) (by decide)) (hf.2.2.2 32 (by decide) (by decide) (by decide)) (hf.2.2.2 38 (by decide) (by decide) (by decide)), h5, h6⟩
  unfold jmc
  split <;> omega
/-- the reference holds a tour's line and seed -/
def tM (G : kg_G) (s : tS) : Prop := s.2.1 ≤ 5 ∧ G.1 28 29 = nI s.2.1 ∧ G.1 28 25 = s.2.2.1 ∧ ∀ k, k < s.2.1 → kA G 39 k = s.1 k
/-- who was in which trick, who in one that was done -/
def tI (G : kg_G) (n : Nat) (r : Nat → Nat) (t d : Nat) : Prop := ∀ k, k < n → kA G 40 k = nI (kset (fun u => (r u).testBit k) t) ∧ kA G 41 k = if d.testBit k then 1 else 0
section TM
variable {N : Nat} {G G0 : kg_G} {T np : Nat} {q : Nat → tk_Q} {D : jD}
theorem tok_in {L : Nat → Int32} {r : Nat → Nat} {t k : Nat} (hT : T ≤ 5) (ht : t < T) : (nI (kset (fun u => (r u).testBit k) t) &&& nI (kset (jcl q t) T) = 0) = (kall (fun u => !(scl T q t u && (r u).testBit k)) t = true) := by
  rw [kall_iff]
  have h1 : kset (fun u => (r u).testBit k) t < 32 := kset_lt32 _ (by omega)
  have h2 : kset (jcl q t) T < 32 := kset_lt32 _ hT
  refine propext ⟨fun h u hu => ?_, fun h => ?_⟩
  · have := (kb_and0 _ h1 _ h2).mp h u (by omega)
    rw [kset_cut _ (show t ≤ 5 by omega), kset_bit _ (show u < 5 by omega), kset_cut _ hT, kset_bit _ (show u < 5 by omega)] at this
    unfold scl
    rw [decide_eq_true ht, decide_eq_true (show u < T by omega)]
    rw [decide_eq_true hu, decide_eq_true (show u < T by omega)] at this
    simp only [Bool.true_and] at this ⊢
    cases w : (r u).testBit k
    · simp
    · rw [this w]; rfl
  · refine (kb_and0 _ h1 _ h2).mpr (fun u hu hb => ?_)
    rw [kset_cut _ (show t ≤ 5 by omega), kset_bit _ hu] at hb
    rw [kset_cut _ hT, kset_bit _ hu]
    simp only [Bool.and_eq_true, decide_eq_true_eq] at hb
    have := h u hb.1
    unfold scl at this
    rw [decide_eq_true ht, decide_eq_true (show u < T by omega), hb.2] at this
    simp only [Bool.true_and, Bool.and_true] at this
    rw [decide_eq_true (show u < T by omega), Bool.true_and]
    simpa using this
theorem m_155 (hN : 100 < N) (hf : ufr G0 G) {n t S dn : Nat} (hn : n ≤ 5) (ht : t < 5) (hS : S < 32) (h29 : G.1 28 29 = nI n) {r : Nat → Nat} {d : Nat} (hI : tI G n r t d) (b : Bool) : ∃ G1, fX11_takesLine_155 N N G (nI t) (nI S) (if b then 1 else 0) 0 = some (if b then 1 else 0, G1) ∧ ufr G0 G1 ∧ (∀ j, G1.1 28 j = G.1 28 j) ∧ G1.2.1 39 = G.2.1 39 ∧ tI G1 n (su r t S) (t + 1) (if b then d ||| S else d) := by
  obtain ⟨n', g, e1, e2, e3, e4, e5⟩ := kl_inv (fun m g i => fX11_takesLine_155 N m g (nI t) (nI S) (if b then 1 else 0) i) (fun j g => ufr G0 g ∧ (∀ j, g.1 28 j = G.1 28 j) ∧ g.2.1 39 = G.2.1 39 ∧ ∀ k, k < n → (k < j → kA g 40 k = nI (kset (fun u => (su r t S u).testBit k) (t + 1)) ∧ kA g 41 k = if (if b then d ||| S else d).testBit k then 1 else 0) ∧ (j ≤ k → kA g 40 k = nI (kset (fun u => (r u).testBit k) t) ∧ kA g 41 k = if d.testBit k then 1 else 0)) n (n := N) (a := G) (by omega) ⟨hf, fun _ => rfl, rfl, fun k hk => ⟨fun h => by omega, fun _ => hI k hk⟩⟩ (by
    intro m g j hj ⟨g1, g2, g3, g4⟩
    have l40 : (g.2.1 40).length = 5 := g1.1 40 (by decide)
    have l41 : (g.2.1 41).length = 5 := g1.1 41 (by decide)
    have hj5 : j < 5 := by omega
    have gj := (g4 j hj).2 (Nat.le_refl j)
    have g40 : (g.2.1 40).getD j 0 = nI (kset (fun u => (r u).testBit j) t) := gj.1
    have g41 : (g.2.1 41).getD j 0 = if d.testBit j then 1 else 0 := gj.2
    have ekset : kset (fun u => (su r t S u).testBit j) (t + 1) = kset (fun u => (r u).testBit j) t + (if S.testBit j then 2 ^ t else 0) := by
      rw [kset]
      have e1 : kset (fun u => (su r t S u).testBit j) t = kset (fun u => (r u).testBit j) t := kset_congr t (fun u hu => by unfold su; rw [if_neg (by omega)])
      have e2 : (su r t S t).testBit j = S.testBit j := by unfold su; rw [if_pos rfl]
      rw [e1]
      show _ + (if (su r t S t).testBit j = true then 2 ^ t else 0) = _
      rw [e2]
    have hlt : kset (fun u => (r u).testBit j) t < 2 ^ t := kset_lt _ _
    have hg29 : g.1 28 29 = nI n := (g2 29).trans h29
    by_cases z : S.testBit j = true
    · let v2 := (g.2.1 40).set j (nI (kset (fun u => (su r t S u).testBit j) (t + 1)))
      let v4 := (g.2.1 41).set j (if b then 1 else (if d.testBit j then 1 else 0))
      refine ⟨kg_a (kg_a g 40 v2) 41 v4, ?_, ufr_a (ufr_a g1 (Or.inr (Or.inl rfl)) (by show ((g.2.1 40).set _ _).length = 5; rw [List.length_set, l40])) (Or.inr (Or.inr rfl)) (by show ((g.2.1 41).set _ _).length = 5; rw [List.length_set, l41]), g2, g3, fun k hk => ⟨fun hkj => ?_, fun hjk => ?_⟩⟩
      · show fX11_takesLine_155 N (m + 1) g (nI t) (nI S) (if b then 1 else 0) (nI j) = fX11_takesLine_155 N m (kg_a (kg_a g 40 v2) 41 v4) (nI t) (nI S) (if b then 1 else 0) (nI (j + 1))
        have ev : nI (kset (fun u => (r u).testBit j) t) ||| (1 <<< (nI t &&& 31)) = nI (kset (fun u => (su r t S u).testBit j) (t + 1)) := by
          rw [ekset, if_pos z]; exact kset_or1 t ht _ hlt
        rw [fX11_takesLine_155, hg29, if_neg (m_loop (by omega) hj), kb_sh S hS j hj5, if_pos z, if_pos rfl, kn_g (by omega) (by omega), Option.bind_some, g40, ev, kn_p (by omega) (by omega), Option.bind_some, kn_g (by omega) (by omega), Option.bind_some, g41, kn_p (by omega) (by omega), Option.bind_some, kn_p (by omega) (by omega), Option.bind_some, kn_succ]
        cases b <;> rfl
      · show ((g.2.1 40).set j _).getD k 0 = _ ∧ ((g.2.1 41).set j _).getD k 0 = _
        rw [getD_set (by omega), getD_set (by omega)]
        by_cases e : k = j
        · rw [if_pos e, if_pos e, e]
          refine ⟨rfl, ?_⟩
          cases b
          · rfl
          · show (1 : Int32) = if (d ||| S).testBit j then 1 else 0
            rw [Nat.testBit_or, z, Bool.or_true, if_pos rfl]
        · rw [if_neg e, if_neg e]; exact (g4 k hk).1 (by omega)
      · show ((g.2.1 40).set j _).getD k 0 = _ ∧ ((g.2.1 41).set j _).getD k 0 = _
        rw [getD_set (by omega), getD_set (by omega), if_neg (by omega), if_neg (by omega)]
        exact (g4 k hk).2 (by omega)
    · refine ⟨g, ?_, g1, g2, g3, fun k hk => ⟨fun hkj => ?_, fun hjk => (g4 k hk).2 (by omega)⟩⟩
      · show fX11_takesLine_155 N (m + 1) g (nI t) (nI S) (if b then 1 else 0) (nI j) = fX11_takesLine_155 N m g (nI t) (nI S) (if b then 1 else 0) (nI (j + 1))
        rw [fX11_takesLine_155, hg29, if_neg (m_loop (by omega) hj), kb_sh S hS j hj5, if_neg z, if_neg (by decide), kn_succ]
      · by_cases e : k = j
        · have z' : S.testBit j = false := by simpa using z
          rw [e, ekset, z', if_neg (by decide), Nat.add_zero]
          refine ⟨gj.1, gj.2.trans ?_⟩
          cases b
          · rfl
          · show _ = if (d ||| S).testBit j then 1 else 0
            rw [Nat.testBit_or, z', Bool.or_false]
        · exact (g4 k hk).1 (by omega))
  refine ⟨g, ?_, e2, e3, e4, fun k hk => (e5 k hk).1 hk⟩
  refine Eq.trans e1 ?_
  show fX11_takesLine_155 N (n' + 1) g (nI t) (nI S) (if b then 1 else 0) (nI n) = _
  rw [fX11_takesLine_155, (e3 29).trans h29, if_pos (Int32.le_refl _)]
  cases b <;> rfl
theorem m_takesLine (h : jM N G0 T np q D) (hf : ufr G0 G) {s : tS} (hs : tM G s) {t : Nat} (ht : t < T) {r : Nat → Nat} {d : Nat} (hI : tI G s.2.1 r t d) : ∃ G1, fX11_takesLine N G (nI t) = some (if jdone (q t) s.1 (tset (tok T q s.1 r t) (tcr (q t)) s.2.1) then 1 else 0, G1) ∧ ufr G0 G1 ∧ tM G1 s ∧ tI G1 s.2.1 (su r t (tset (tok T q s.1 r t) (tcr (q t)) s.2.1)) (t + 1) (if jdone (q t) s.1 (tset (tok T q s.1 r t) (tcr (q t)) s.2.1) then d ||| tset (tok T q s.1 r t) (tcr (q t)) s.2.1 else d) := by
  have hN := h.2.2.2.2.2
  have h5 := h.2.1.1
  have hq := h.2.1.2.2.2 t ht
  obtain ⟨h1, h2, h3, h4⟩ := hs
  have hM := ufr_M h hf
  have l39 : (G.2.1 39).length = 5 := hf.1 39 (by decide)
  have l40 : (G.2.1 40).length = 5 := hf.1 40 (by decide)
  obtain ⟨ok, hok⟩ : ∃ ok, ok = tok T q s.1 r t := ⟨_, rfl⟩
  rw [← hok]
  have hc2 : tcr (q t) ≤ 2 := by rcases tcr_12 (q t) with e | e <;> omega
  obtain ⟨n', a', e1, e2, e3⟩ := kl_inv (fun n (a : Int32 × Int32) i => fX11_takesLine_7 N n G (nI t) a.1 a.2 i) (fun k a => a.1 = nI (tset ok (tcr (q t)) k) ∧ a.2 = kfo (fun p a => if (decide (bc (tset ok (tcr (q t)) p) < tcr (q t)) && ok p) then a + s.1 p else a) k 0) s.2.1 (n := N) (a := (0, 0)) (by omega) ⟨rfl, rfl⟩ (by
    intro n a k hk ⟨a1, a2⟩
    have h32 : tset ok (tcr (q t)) k < 32 := tset_32 _ _ (by omega)
    have hbc := (bc_eq _ h32).1
    have hbl := (bc_eq _ h32).2.1
    have ele : (tk_crew (q t) ≤ fJ6_bitCount_0f7a4 (nI (tset ok (tcr (q t)) k))) = (tcr (q t) ≤ bc (tset ok (tcr (q t)) k)) := by
      rw [hbc, tcr_eq]; exact kn_le (by omega) (by omega)
    have g39 : (G.2.1 39).getD k 0 = s.1 k := h4 k hk
    have g40 : (G.2.1 40).getD k 0 = nI (kset (fun u => (r u).testBit k) t) := (hI k hk).1
    have hokk : ok k = (kall (fun u => !(scl T q t u && (r u).testBit k)) t && jsu (q t) (s.1 k)) := by rw [hok]; rfl
    have hti := tok_in (q := q) (L := s.1) (r := r) (k := k) h5 ht
    refine ⟨(nI (tset ok (tcr (q t)) (k + 1)), kfo (fun p a => if (decide (bc (tset ok (tcr (q t)) p) < tcr (q t)) && ok p) then a + s.1 p else a) (k + 1) 0), ?_, rfl, rfl⟩
    show fX11_takesLine_7 N (n + 1) G (nI t) a.1 a.2 (nI k) = fX11_takesLine_7 N n G (nI t) (nI (tset ok (tcr (q t)) (k + 1))) (kfo (fun p a => if (decide (bc (tset ok (tcr (q t)) p) < tcr (q t)) && ok p) then a + s.1 p else a) (k + 1) 0) (nI (k + 1))
    have eset : nI (tset ok (tcr (q t)) (k + 1)) = if (decide (bc (tset ok (tcr (q t)) k) < tcr (q t)) && ok k) then nI (tset ok (tcr (q t)) k) ||| (1 <<< (nI k &&& 31)) else nI (tset ok (tcr (q t)) k) := by
      rw [tset]
      split
      · rw [kset_or1 k (by omega) _ (tset_lt ok _ k)]
      · rfl
    have esum : kfo (fun p a => if (decide (bc (tset ok (tcr (q t)) p) < tcr (q t)) && ok p) then a + s.1 p else a) (k + 1) 0 = if (decide (bc (tset ok (tcr (q t)) k) < tcr (q t)) && ok k) then a.2 + s.1 k else a.2 := by
      rw [kfo, ← a2]
    have no : (decide (bc (tset ok (tcr (q t)) k) < tcr (q t)) && ok k) = false → fX11_takesLine_63 N (fX11_takesLine_7 N n) G (nI t) a.1 a.2 (nI k) = fX11_takesLine_7 N n G (nI t) (nI (tset ok (tcr (q t)) (k + 1))) (kfo (fun p a => if (decide (bc (tset ok (tcr (q t)) p) < tcr (q t)) && ok p) then a + s.1 p else a) (k + 1) 0) (nI (k + 1)) := by
      intro z
      unfold fX11_takesLine_63 fX11_takesLine_64 fX11_takesLine_80
      rw [eset, esum, z, if_pos rfl, if_pos rfl, if_neg (by decide), if_neg (by decide), i_or0, i_add0, kn_succ, a1]
    rw [fX11_takesLine_7, h2, if_neg (m_loop (by omega) hk), a1, m_ones hN h32, Option.bind_some, m_wantsOf hM ht, Option.bind_some, ← a1]
    by_cases z1 : tcr (q t) ≤ bc (tset ok (tcr (q t)) k)
    · rw [if_pos (by rw [a1, ele]; exact z1)]
      exact no (by rw [decide_eq_false (by omega)]; rfl)
    rw [if_neg (by rw [a1, ele]; exact z1), kn_g (by omega) (by omega), Option.bind_some, g39, m_fitsBy hM ht, Option.bind_some]
    by_cases z2 : jsu (q t) (s.1 k) = true
    rotate_left
    · have z2' : jsu (q t) (s.1 k) = false := by simpa using z2
      rw [if_neg z2, if_pos rfl]
      exact no (by rw [hokk, z2', Bool.and_false, Bool.and_false])
    rw [if_pos z2, if_neg (by decide), kn_g (by omega) (by omega), Option.bind_some, g40, m_clashSet hM ht, Option.bind_some]
    by_cases z3 : kall (fun u => !(scl T q t u && (r u).testBit k)) t = true
    rotate_left
    · have z3' : kall (fun u => !(scl T q t u && (r u).testBit k)) t = false := by simpa using z3
      rw [if_neg (by rw [hti]; exact z3)]
      exact no (by rw [hokk, z3', Bool.false_and, Bool.and_false])
    rw [if_pos (by rw [hti]; exact z3)]
    have yes : (decide (bc (tset ok (tcr (q t)) k) < tcr (q t)) && ok k) = true := by
      rw [hokk, z2, z3, decide_eq_true (by omega)]; rfl
    unfold fX11_takesLine_64 fX11_takesLine_80
    rw [eset, esum, yes, if_neg (by decide), if_neg (by decide), kn_g (by omega) (by omega), Option.bind_some, g39, if_pos rfl, if_pos rfl, kn_succ, a1])
  obtain ⟨S, hSd⟩ : ∃ S, S = tset ok (tcr (q t)) s.2.1 := ⟨_, rfl⟩
  rw [← hSd] at e2 ⊢
  have hS32 : S < 32 := by rw [hSd]; exact tset_32 _ _ h1
  have hbit : ∀ k, k < 5 → S.testBit k = (decide (k < s.2.1) && (decide (bc (tset ok (tcr (q t)) k) < tcr (q t)) && ok k)) := fun k hk => by rw [hSd, tset_bit _ _ h1 hk]
  have esum : a'.2 = jsum s.1 S := by
    have ek : kfo (fun p a => if S.testBit p then a + s.1 p else a) 5 0 = kfo (fun p a => if S.testBit p then a + s.1 p else a) s.2.1 0 := kfo_ext (m := s.2.1) (m' := 5) _ h1 (fun j a h1' h2' => by
      rw [if_neg]
      rw [hbit j h2', decide_eq_false (by omega), Bool.false_and]
      decide)
    rw [e3]
    show _ = kfo (fun p a => if S.testBit p then a + s.1 p else a) 5 0
    rw [ek]
    refine kfo_congr _ _ (fun j a hj => ?_)
    rw [hbit j (by omega), decide_eq_true hj, Bool.true_and]
  have hall : kall (fun p => !(S.testBit p) || jsu (q t) (s.1 p)) 5 = true := by
    rw [kall_iff]
    intro p hp
    cases w : S.testBit p
    · rfl
    · rw [hbit p hp] at w
      simp only [Bool.and_eq_true] at w
      have w2 := w.2.2
      rw [hok] at w2
      unfold tok at w2
      simp only [Bool.and_eq_true] at w2
      rw [w2.2]; rfl
  have hjd : jdone (q t) s.1 S = (decide (fJ6_bitCount_0f7a4 (nI S) = tk_crew (q t)) && !(decide (tk_holdsWith (q t) (jsum s.1 S) = 0))) := by
    unfold jdone
    rw [hall, Bool.and_true]
  obtain ⟨G1, f1, f2, f3, f4, f5⟩ := m_155 (dn := 0) hN hf h1 (show t < 5 by omega) hS32 h2 hI (jdone (q t) s.1 S)
  refine ⟨G1, ?_, f2, ⟨h1, (f3 29).trans h2, (f3 25).trans h3, fun k hk => ?_⟩, f5⟩
  · rw [← f1]
    unfold fX11_takesLine
    refine Eq.trans e1 ?_
    show fX11_takesLine_7 N (n' + 1) G (nI t) a'.1 a'.2 (nI s.2.1) = _
    rw [fX11_takesLine_7, h2, if_pos (Int32.le_refl _), e2, m_ones hN hS32, Option.bind_some, m_wantsOf hM ht, Option.bind_some, mr_kind hM ht, Option.bind_some, mr_need hM ht, Option.bind_some, esum, hjd]
    unfold tk_holdsWith
    simp only [tk_kind4 hq]
    by_cases c1 : fJ6_bitCount_0f7a4 (nI S) = tk_crew (q t) <;> by_cases c2 : (q t).1 = 5 <;> by_cases c3 : jsum s.1 S < (q t).2.2.2 <;> simp [c1, c2, c3]
  · have := h4 k hk
    unfold kA at this ⊢
    rw [f4]; exact this
end TM
