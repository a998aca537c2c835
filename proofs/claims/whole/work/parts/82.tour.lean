/-! TOURS: the reference's night, the order -/
section TM2
variable {N : Nat} {G G0 : kg_G} {T np : Nat} {q : Nat → tk_Q} {D : jD}
theorem m_letLineGo (hN : 100 < N) (hf : ufr G0 G) {s : tS} (hs : tM G s) {r : Nat → Nat} {t d : Nat} (hI : tI G s.2.1 r t d) : ∃ G1 v, fX11_letLineGo N G = some (v, G1) ∧ ufr G0 G1 ∧ tM G1 (tsend s d) ∧ s.2.2.2.2 + v = (tsend s d).2.2.2.2 := by
  obtain ⟨h1, h2, h3, h4⟩ := hs
  have l39 : (G.2.1 39).length = 5 := hf.1 39 (by decide)
  have l41 : (G.2.1 41).length = 5 := hf.1 41 (by decide)
  obtain ⟨k1, k2, k3, k4⟩ := kffg_ok (fun k => d.testBit k) s.2.1 0
  have e1 : fX11_letLineGo N G = fX11_letLineGo_26 N G (nI (kffg (fun k => d.testBit k) s.2.1 0)) := by
    refine kl_first (fun m x => fX11_letLineGo_2 N m G x) (fun k => d.testBit k) s.2.1 (fun j => fX11_letLineGo_26 N G (nI j)) ?_ ?_ s.2.1 0 N (by omega) (by omega)
    · intro m
      show fX11_letLineGo_2 N (m + 1) G (nI s.2.1) = _
      rw [fX11_letLineGo_2, h2, if_pos (Int32.le_refl _)]
    · intro m j hj
      show fX11_letLineGo_2 N (m + 1) G (nI j) = if d.testBit j then fX11_letLineGo_2 N m G (nI (j + 1)) else fX11_letLineGo_26 N G (nI j)
      have g41 : (G.2.1 41).getD j 0 = if d.testBit j then 1 else 0 := (hI j hj).2
      rw [fX11_letLineGo_2, h2, if_neg (m_loop (by omega) hj), kn_g (by omega) (by omega), Option.bind_some, g41, kn_succ]
      cases d.testBit j <;> rfl
  rw [e1]
  obtain ⟨f, hfd⟩ : ∃ f, f = kffg (fun k => d.testBit k) s.2.1 0 := ⟨_, rfl⟩
  unfold fX11_letLineGo_26 tsend
  rw [← hfd] at k2 ⊢
  rw [h2]
  have eeq : (nI f = nI s.2.1) = (f = s.2.1) := kn_eq (by omega) (by omega)
  by_cases z : f < s.2.1
  · rw [if_neg (by rw [eeq]; omega), if_pos z]
    obtain ⟨a', e1, _, xs, g1, g2, g3⟩ := kl_go (fun m g i => fX11_letLineGo_38 N m g i) (fun m g => f ≤ m ∧ ∃ xs, g = kg_a G 39 xs ∧ xs.length = 5 ∧ ∀ k, k < s.2.1 → xs.getD k 0 = if k < f then s.1 k else if k < m then s.1 (k + 1) else s.1 k) (s.2.1 - 1) (by
      intro m g j hj ⟨hj1, xs, g1, g2, g3⟩
      refine ⟨kg_a G 39 (xs.set j (s.1 (j + 1))), ?_, by omega, _, rfl, by rw [List.length_set, g2], fun k hk => ?_⟩
      · show fX11_letLineGo_38 N (m + 1) g (nI j) = fX11_letLineGo_38 N m _ (nI (j + 1))
        have h2' : (kg_a G 39 xs).1 28 29 = nI s.2.1 := h2
        have gj : xs.getD (j + 1) 0 = s.1 (j + 1) := by rw [g3 (j + 1) (by omega), if_neg (by omega), if_neg (by omega)]
        rw [g1, fX11_letLineGo_38, h2', kn_succ, if_neg (m_loop (by omega) (by omega)), kv_ga g2 (by show j + 1 < 5; omega) (by decide), Option.bind_some, kv_pa g2 (by show j < 5; omega) (by decide), Option.bind_some, kg_aa, gj]
      · rw [getD_set (by omega), g3 k hk]
        by_cases e : k = j
        · rw [if_pos e, if_neg (by omega), if_pos (by omega), e]
        · rw [if_neg e]
          by_cases c1 : k < f
          · rw [if_pos c1, if_pos c1]
          · rw [if_neg c1, if_neg c1]
            by_cases c2 : k < j
            · rw [if_pos c2, if_pos (by omega)]
            · rw [if_neg c2, if_neg (by omega)]) (s.2.1 - 1 - f) f N G (by omega) (by omega) ⟨Nat.le_refl _, G.2.1 39, (kg_as G 39).symm, l39, fun k hk => by
        have : (G.2.1 39).getD k 0 = s.1 k := h4 k hk
        rw [this]
        by_cases c1 : k < f
        · rw [if_pos c1]
        · rw [if_neg c1, if_neg c1]⟩
    refine ⟨kg_i (kg_a G 39 xs) 28 29 (nI (s.2.1 - 1)), 1, ?_, ufr_i (ufr_a hf (Or.inl rfl) g2) (Or.inr rfl) _, ⟨?_, rfl, h3, fun k hk => ?_⟩, rfl⟩
    · refine Eq.trans e1 ?_
      show fX11_letLineGo_38 N (N - (s.2.1 - 1 - f)) a' (nI (s.2.1 - 1)) = _
      obtain ⟨n', hn'⟩ : ∃ n', N - (s.2.1 - 1 - f) = n' + 1 := ⟨N - (s.2.1 - 1 - f) - 1, by omega⟩
      have h2' : (kg_a G 39 xs).1 28 29 = nI s.2.1 := h2
      have em : nI s.2.1 - 1 = nI (s.2.1 - 1) := kn_sub (a := s.2.1) (b := 1) (by omega)
      rw [hn', g1, fX11_letLineGo_38, h2', kn_succ, if_pos (by rw [kn_le (by omega) (by omega)]; omega), em]
    · show s.2.1 - 1 ≤ 5
      omega
    · have hk' : k < s.2.1 - 1 := hk
      show xs.getD k 0 = if k < f then s.1 k else s.1 (k + 1)
      rw [g3 k (by omega)]
      by_cases c1 : k < f
      · rw [if_pos c1, if_pos c1]
      · rw [if_neg c1, if_neg c1, if_pos hk']
  · rw [if_pos (by rw [eeq]; omega), if_neg z]
    exact ⟨G, 0, rfl, hf, ⟨h1, h2, h3, h4⟩, i_add0 _⟩
theorem m_zero (hN : 100 < N) (hf : ufr G0 G) {s : tS} (hs : tM G s) (k60 : kg_G → Int32 → Int32 → Int32 → Int32 → Int32 → Option (Int32 × kg_G)) (l1 l3 l4 l5 l6 : Int32) : ∃ G1, fX11_tours_106 N k60 N G l1 l3 l4 l5 l6 0 = fX11_tours_137 N k60 N G1 l1 l3 l4 l5 l6 0 ∧ ufr G0 G1 ∧ tM G1 s ∧ tI G1 s.2.1 (fun _ => 0) 0 0 := by
  obtain ⟨h1, h2, h3, h4⟩ := hs
  obtain ⟨n', g, e1, e2, e3, e4, e5⟩ := kl_inv (fun m g i => fX11_tours_106 N k60 m g l1 l3 l4 l5 l6 i) (fun j g => ufr G0 g ∧ (∀ j, g.1 28 j = G.1 28 j) ∧ g.2.1 39 = G.2.1 39 ∧ ∀ k, k < j → kA g 40 k = 0 ∧ kA g 41 k = 0) 5 (n := N) (a := G) (by omega) ⟨hf, fun _ => rfl, rfl, fun k hk => by omega⟩ (by
    intro m g j hj ⟨g1, g2, g3, g4⟩
    have l40 : (g.2.1 40).length = 5 := g1.1 40 (by decide)
    have l41 : (g.2.1 41).length = 5 := g1.1 41 (by decide)
    have q1 : ¬ (5 : Int32) ≤ nI j := m_loop (m := 5) (by omega) hj
    refine ⟨kg_a (kg_a g 40 ((g.2.1 40).set j 0)) 41 ((g.2.1 41).set j 0), ?_, ufr_a (ufr_a g1 (Or.inr (Or.inl rfl)) (by rw [List.length_set, l40])) (Or.inr (Or.inr rfl)) (by rw [List.length_set, l41]), g2, g3, fun k hk => ?_⟩
    · show fX11_tours_106 N k60 (m + 1) g l1 l3 l4 l5 l6 (nI j) = fX11_tours_106 N k60 m _ l1 l3 l4 l5 l6 (nI (j + 1))
      rw [fX11_tours_106, if_neg q1, kn_p (by omega) (by omega), Option.bind_some, kn_p (by omega) (by omega), Option.bind_some, kn_succ]
    · show ((g.2.1 40).set j 0).getD k 0 = 0 ∧ ((g.2.1 41).set j 0).getD k 0 = 0
      rw [getD_set (by omega), getD_set (by omega)]
      by_cases e : k = j
      · rw [if_pos e, if_pos e]; exact ⟨rfl, rfl⟩
      · rw [if_neg e, if_neg e]; exact g4 k (by omega))
  refine ⟨g, ?_, e2, ⟨h1, (e3 29).trans h2, (e3 25).trans h3, fun k hk => ?_⟩, fun k hk => ⟨(e5 k (by omega)).1, ?_⟩⟩
  · refine Eq.trans e1 ?_
    show fX11_tours_106 N k60 (n' + 1) g l1 l3 l4 l5 l6 (nI 5) = _
    rw [fX11_tours_106, if_pos (by decide)]
  · have := h4 k hk
    unfold kA at this ⊢
    rw [e4]; exact this
  · rw [(e5 k (by omega)).2]
    simp
theorem m_play (h : jM N G0 T np q D) (hf : ufr G0 G) {s : tS} (hs : tM G s) (hI : tI G s.2.1 (fun _ => 0) 0 0) (k60 : kg_G → Int32 → Int32 → Int32 → Int32 → Int32 → Option (Int32 × kg_G)) (l1 l3 l6 : Int32) : ∃ G1, fX11_tours_137 N k60 N G l1 l3 s.2.2.2.1 s.2.2.2.2 l6 0 = k60 G1 l1 l3 (tplay T q s.1 s.2.1 s.2.2.2.1 T).2.1 (tsend (s.1, s.2.1, s.2.2.1, (tplay T q s.1 s.2.1 s.2.2.2.1 T).2.1, s.2.2.2.2) (tplay T q s.1 s.2.1 s.2.2.2.1 T).2.2).2.2.2.2 (l6 + 1) ∧ ufr G0 G1 ∧ tM G1 (tsend (s.1, s.2.1, s.2.2.1, (tplay T q s.1 s.2.1 s.2.2.2.1 T).2.1, s.2.2.2.2) (tplay T q s.1 s.2.1 s.2.2.2.1 T).2.2) := by
  have hN := h.2.2.2.2.2
  have h5 := h.2.1.1
  obtain ⟨n', a', e1, e2, e3, e4, e5⟩ := kl_inv (fun n (a : kg_G × Int32) i => fX11_tours_137 N k60 n a.1 l1 l3 a.2 s.2.2.2.2 l6 i) (fun t a => ufr G0 a.1 ∧ tM a.1 s ∧ a.2 = (tplay T q s.1 s.2.1 s.2.2.2.1 t).2.1 ∧ tI a.1 s.2.1 (tplay T q s.1 s.2.1 s.2.2.2.1 t).1 t (tplay T q s.1 s.2.1 s.2.2.2.1 t).2.2) T (n := N) (a := (G, s.2.2.2.1)) (by omega) ⟨hf, hs, rfl, hI⟩ (by
    intro n a t ht ⟨a1, a2, a3, a4⟩
    obtain ⟨G1, b1, b2, b3, b4⟩ := m_takesLine h a1 a2 ht a4
    have hT3 : a.1.1 28 3 = nI T := m_T (ufr_M h a1)
    have hp1 : tplay T q s.1 s.2.1 s.2.2.2.1 (t + 1) = tg T q s.1 s.2.1 t (tplay T q s.1 s.2.1 s.2.2.2.1 t) := rfl
    refine ⟨(G1, (tplay T q s.1 s.2.1 s.2.2.2.1 (t + 1)).2.1), ?_, b2, b3, rfl, b4⟩
    show fX11_tours_137 N k60 (n + 1) a.1 l1 l3 a.2 s.2.2.2.2 l6 (nI t) = fX11_tours_137 N k60 n G1 l1 l3 (tplay T q s.1 s.2.1 s.2.2.2.1 (t + 1)).2.1 s.2.2.2.2 l6 (nI (t + 1))
    rw [fX11_tours_137, hT3, if_neg (m_loop (by omega) ht), b1, Option.bind_some, hp1, i_add0, kn_succ, a3]
    unfold tg
    by_cases z : jdone (q t) s.1 (tset (tok T q s.1 (tplay T q s.1 s.2.1 s.2.2.2.1 t).1 t) (tcr (q t)) s.2.1) = true
    · simp only [z, if_true]
      rw [if_neg (by decide)]
    · have z' : jdone (q t) s.1 (tset (tok T q s.1 (tplay T q s.1 s.2.1 s.2.2.2.1 t).1 t) (tcr (q t)) s.2.1) = false := by simpa using z
      simp only [z']
      rfl)
  have hs' : tM a'.1 (s.1, s.2.1, s.2.2.1, (tplay T q s.1 s.2.1 s.2.2.2.1 T).2.1, s.2.2.2.2) := e3
  obtain ⟨G1, v, c1, c2, c3, c4⟩ := m_letLineGo hN e2 hs' e5
  refine ⟨G1, ?_, c2, c3⟩
  refine Eq.trans e1 ?_
  show fX11_tours_137 N k60 (n' + 1) a'.1 l1 l3 a'.2 s.2.2.2.2 l6 (nI T) = _
  have hT3 : a'.1.1 28 3 = nI T := m_T (ufr_M h e2)
  rw [fX11_tours_137, hT3, if_pos (Int32.le_refl _), c1, Option.bind_some, e4]
  have c4' : s.2.2.2.2 + v = _ := c4
  show k60 G1 l1 l3 _ (s.2.2.2.2 + v) (l6 + 1) = _
  rw [c4']
theorem m_mcall (hf : ufr G0 G) {s : tS} (hs : tM G s) {k106 : kg_G → Option (Int32 × kg_G)} : ∃ G1, ((fX11_draw G 10).bind fun v1 => if 5 ≤ (v1.2.1 28 29) then k106 v1.2 else (kv_p (v1.2.2.1 39) (v1.2.1 28 29) v1.1).bind fun v2 => k106 (kg_i (kg_a v1.2 39 v2) 28 29 ((v1.2.1 28 29) + 1))) = k106 G1 ∧ ufr G0 G1 ∧ tM G1 (tcall s) := by
  obtain ⟨h1, h2, h3, h4⟩ := hs
  have ed : fX11_draw G 10 = some (tstr (tseed s.2.2.1), kg_i G 28 25 (tseed s.2.2.1)) := by
    unfold fX11_draw
    rw [if_neg (by decide), h3]; rfl
  rw [ed, Option.bind_some]
  have g2 : (kg_i G 28 25 (tseed s.2.2.1)).1 28 29 = nI s.2.1 := h2
  have g39 : (kg_i G 28 25 (tseed s.2.2.1)).2.1 39 = G.2.1 39 := rfl
  have l39 : (G.2.1 39).length = 5 := hf.1 39 (by decide)
  have ele : ((5 : Int32) ≤ nI s.2.1) = (5 ≤ s.2.1) := kn_le (a := 5) (b := s.2.1) (by omega) (by omega)
  show ∃ G1, (if 5 ≤ ((kg_i G 28 25 (tseed s.2.2.1)).1 28 29) then k106 (kg_i G 28 25 (tseed s.2.2.1)) else (kv_p ((kg_i G 28 25 (tseed s.2.2.1)).2.1 39) ((kg_i G 28 25 (tseed s.2.2.1)).1 28 29) (tstr (tseed s.2.2.1))).bind fun v2 => k106 (kg_i (kg_a (kg_i G 28 25 (tseed s.2.2.1)) 39 v2) 28 29 (((kg_i G 28 25 (tseed s.2.2.1)).1 28 29) + 1))) = k106 G1 ∧ _
  rw [g2]
  by_cases z : s.2.1 < 5
  · rw [if_neg (by rw [ele]; omega), g39, kn_p (by omega) (by omega), Option.bind_some, kn_succ]
    refine ⟨_, rfl, ufr_i (ufr_a (ufr_i hf (Or.inl rfl) _) (Or.inl rfl) (by rw [List.length_set, l39])) (Or.inr rfl) _, tcall_5 h1, ?_, rfl, fun k hk => ?_⟩
    · show nI (s.2.1 + 1) = nI (if s.2.1 < 5 then s.2.1 + 1 else s.2.1)
      rw [if_pos z]
    · have hk' : k < s.2.1 + 1 := by
        have : k < (if s.2.1 < 5 then s.2.1 + 1 else s.2.1) := hk
        rw [if_pos z] at this; exact this
      show ((G.2.1 39).set s.2.1 (tstr (tseed s.2.2.1))).getD k 0 = (if s.2.1 < 5 then (fun k => if k = s.2.1 then tstr (tseed s.2.2.1) else s.1 k) else s.1) k
      rw [if_pos z, getD_set (by omega)]
      by_cases e : k = s.2.1
      · rw [if_pos e, if_pos e]
      · rw [if_neg e, if_neg e]; exact h4 k (by omega)
  · rw [if_pos (by rw [ele]; omega)]
    refine ⟨_, rfl, ufr_i hf (Or.inl rfl) _, tcall_5 h1, ?_, rfl, fun k hk => ?_⟩
    · show G.1 28 29 = nI (if s.2.1 < 5 then s.2.1 + 1 else s.2.1)
      rw [if_neg z]; exact h2
    · have hk' : k < s.2.1 := by
        have : k < (if s.2.1 < 5 then s.2.1 + 1 else s.2.1) := hk
        rw [if_neg z] at this; exact this
      show kA G 39 k = (if s.2.1 < 5 then (fun k => if k = s.2.1 then tstr (tseed s.2.2.1) else s.1 k) else s.1) k
      rw [if_neg z]; exact h4 k hk'
theorem m_tours60 (h : jM N G T np q D) {m : Nat} (hm : m ≤ 40) (seed w : Int32) : ∃ G1, fX11_tours_60 N N (kg_i (kg_i G 28 25 seed) 28 29 0) (nI m) w 0 0 0 = some (if w = 0 then (ttour T q seed m).2.2.2.1 else if w = 1 then (ttour T q seed m).2.2.2.2 else (ttour T q seed m).2.2.1, G1) ∧ ufr G G1 := by
  have hN := h.2.2.2.2.2
  obtain ⟨n', a', e1, e2, e3, e4, e5⟩ := kl_inv (fun n (a : kg_G × Int32 × Int32) i => fX11_tours_60 N n a.1 (nI m) w a.2.1 a.2.2 i) (fun j a => ufr G a.1 ∧ tM a.1 (ttour T q seed j) ∧ a.2.1 = (ttour T q seed j).2.2.2.1 ∧ a.2.2 = (ttour T q seed j).2.2.2.2) m (n := N) (a := (kg_i (kg_i G 28 25 seed) 28 29 0, 0, 0)) (by omega) ⟨ufr_i (ufr_i (ufr_refl h.1) (Or.inl rfl) _) (Or.inr rfl) _, ⟨by show (0 : Nat) ≤ 5; omega, rfl, rfl, fun k hk => by
      have : k < 0 := hk
      omega⟩, rfl, rfl⟩ (by
    intro n a j hj ⟨a1, a2, a3, a4⟩
    obtain ⟨s, hs⟩ : ∃ s, s = ttour T q seed j := ⟨_, rfl⟩
    have hs1 : ttour T q seed (j + 1) = tnight T q s := by rw [hs]; rfl
    rw [hs1]
    rw [← hs] at a2 a3 a4
    obtain ⟨G1, b1, b2, b3⟩ := m_mcall (k106 := fun g => fX11_tours_106 N (fX11_tours_60 N n) N g (nI m) w a.2.1 a.2.2 (nI j) 0) a1 a2
    obtain ⟨G2, c1, c2, c3, c4⟩ := m_zero hN b2 b3 (fX11_tours_60 N n) (nI m) w a.2.1 a.2.2 (nI j)
    obtain ⟨G3, d1, d2, d3⟩ := m_play h c2 c3 c4 (fX11_tours_60 N n) (nI m) w (nI j)
    refine ⟨(G3, (tplay T q (tcall s).1 (tcall s).2.1 s.2.2.2.1 T).2.1, (tnight T q s).2.2.2.2), ?_, d2, d3, ?_, rfl⟩
    · show fX11_tours_60 N (n + 1) a.1 (nI m) w a.2.1 a.2.2 (nI j) = fX11_tours_60 N n G3 (nI m) w (tplay T q (tcall s).1 (tcall s).2.1 s.2.2.2.1 T).2.1 (tnight T q s).2.2.2.2 (nI (j + 1))
      have d1' : fX11_tours_137 N (fX11_tours_60 N n) N G2 (nI m) w s.2.2.2.1 s.2.2.2.2 (nI j) 0 = fX11_tours_60 N n G3 (nI m) w (tplay T q (tcall s).1 (tcall s).2.1 s.2.2.2.1 T).2.1 (tnight T q s).2.2.2.2 (nI j + 1) := d1
      rw [fX11_tours_60, if_neg (m_loop (by omega) hj)]
      refine Eq.trans b1 (Eq.trans c1 ?_)
      rw [a3, a4, d1', kn_succ]
    · show (tplay T q (tcall s).1 (tcall s).2.1 s.2.2.2.1 T).2.1 = (tnight T q s).2.2.2.1
      unfold tnight tsend
      split <;> rfl)
  refine ⟨a'.1, ?_, e2⟩
  refine Eq.trans e1 ?_
  show fX11_tours_60 N (n' + 1) a'.1 (nI m) w a'.2.1 a'.2.2 (nI m) = _
  rw [fX11_tours_60, if_pos (Int32.le_refl _), e4, e5, e3.2.2.1]
  split
  · rfl
  · split <;> rfl
end TM2
