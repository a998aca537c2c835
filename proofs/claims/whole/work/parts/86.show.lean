/-! SHOW: the reference reads the same -/
/-- what the reference's reading leaves alone -/
def vfr (G G2 : kg_G) : Prop := jLn G2 ∧ (∀ a j, a ≠ 28 → G2.1 a j = G.1 a j) ∧ G2.2.2 = G.2.2 ∧ ∀ a, a ≠ 30 → a ≠ 31 → a ≠ 32 → G2.2.1 a = G.2.1 a
theorem vfr_refl {G : kg_G} (h : jLn G) : vfr G G := ⟨h, fun _ _ _ => rfl, rfl, fun _ _ _ _ => rfl⟩
theorem vfr_i {G G2 : kg_G} (h : vfr G G2) (k : Nat) (v : Int32) : vfr G (kg_i G2 28 k v) := by
  refine ⟨h.1, fun a j ha => ?_, h.2.2.1, h.2.2.2⟩
  show (if a = 28 then _ else G2.1 a j) = _
  rw [if_neg ha]; exact h.2.1 a j ha
theorem vfr_a {G G2 : kg_G} (h : vfr G G2) {b : Nat} {xs : List Int32} (hb : b = 30 ∨ b = 31 ∨ b = 32) (hx : xs.length = jLen b) : vfr G (kg_a G2 b xs) := by
  refine ⟨jLn_a h.1 hx, h.2.1, h.2.2.1, fun a h1 h2 h3 => ?_⟩
  show (if a = b then xs else G2.2.1 a) = _
  rw [if_neg (by omega)]; exact h.2.2.2 a h1 h2 h3
theorem cq_kind {c : Nat → Nat} {i : Nat} (h1 : c (5 * i) < 127) (h2 : gK (c (5 * i)) = true) : fX11_kindBy (nI (c (5 * i))) = tk_kind (cq c i) := g_kindq _ h1 h2
section VS
variable {G0 S : kg_G} {c : Nat → Nat} {n te T np : Nat}
theorem m_show78 (hs : jsh c te n T np) (hf : vfr G0 S) (h3 : S.1 28 3 = nI T) (h29 : ∀ i, i < n → c i < 127 ∧ kv_g (G0.2.1 29) (nI i) = some (nI (c i))) : ∃ G1, fX11_show_78 kN kN S 0 = fX11_show_189 kN kN G1 0 ∧ vfr G0 G1 ∧ (∀ j, G1.1 28 j = S.1 28 j) ∧ G1.2.1 31 = S.2.1 31 ∧ ∀ i, i < T → kA G1 30 (4 * i) = tk_kind (cq c i) ∧ kA G1 30 (4 * i + 1) = (cq c i).2.1 ∧ kA G1 30 (4 * i + 2) = (cq c i).2.2.1 ∧ kA G1 30 (4 * i + 3) = (cq c i).2.2.2 ∧ kA G1 32 i = 0 := by
  obtain ⟨h1, h2, h3', h4, h5, h6, h7, h8⟩ := hs
  obtain ⟨n', g, e1, g2, g3, g4, g5⟩ := kl_inv (fun m g i => fX11_show_78 kN m g i) (fun t g => vfr G0 g ∧ (∀ j, g.1 28 j = S.1 28 j) ∧ g.2.1 31 = S.2.1 31 ∧ ∀ i, i < t → kA g 30 (4 * i) = tk_kind (cq c i) ∧ kA g 30 (4 * i + 1) = (cq c i).2.1 ∧ kA g 30 (4 * i + 2) = (cq c i).2.2.1 ∧ kA g 30 (4 * i + 3) = (cq c i).2.2.2 ∧ kA g 32 i = 0) T (n := kN) (a := S) (by have := kN_gt; omega) ⟨hf, fun _ => rfl, rfl, fun i hi => by omega⟩ (by
    intro m g t ht ⟨g2, g3, g4, g5⟩
    have l30 : (g.2.1 30).length = 20 := g2.1 30 (by decide)
    have l32 : (g.2.1 32).length = 5 := g2.1 32 (by decide)
    have e29 : g.2.1 29 = G0.2.1 29 := g2.2.2.2 29 (by decide) (by decide) (by decide)
    have hT3 : g.1 28 3 = nI T := (g3 3).trans h3
    obtain ⟨k0, d1, d2, d3⟩ := h7 t ht
    have d1 := of_decide_eq_true d1
    have d2 := of_decide_eq_true d2
    have d3 := of_decide_eq_true d3
    have s1 : nI (c (5 * t + 1)) - 48 = (cq c t).2.1 := kn_sub (a := c (5 * t + 1)) (b := 48) (by omega)
    have s2 : nI (c (5 * t + 2)) - 48 = (cq c t).2.2.1 := kn_sub (a := c (5 * t + 2)) (b := 48) (by omega)
    have s3 : nI (c (5 * t + 3)) - 48 = (cq c t).2.2.2 := kn_sub (a := c (5 * t + 3)) (b := 48) (by omega)
    have s0 := cq_kind (h29 (5 * t) (by omega)).1 k0
    let xs := ((((g.2.1 30).set (4 * t) (tk_kind (cq c t))).set (4 * t + 1) (cq c t).2.1).set (4 * t + 2) (cq c t).2.2.1).set (4 * t + 3) (cq c t).2.2.2
    have lx : xs.length = 20 := by show (((((g.2.1 30).set _ _).set _ _).set _ _).set _ _).length = 20; rw [List.length_set, List.length_set, List.length_set, List.length_set, l30]
    have gx : ∀ r, xs.getD r 0 = if r = 4 * t + 3 then (cq c t).2.2.2 else if r = 4 * t + 2 then (cq c t).2.2.1 else if r = 4 * t + 1 then (cq c t).2.1 else if r = 4 * t then tk_kind (cq c t) else (g.2.1 30).getD r 0 := by
      intro r
      show (((((g.2.1 30).set _ _).set _ _).set _ _).set _ _).getD r 0 = _
      rw [getD_set (by rw [List.length_set, List.length_set, List.length_set]; omega), getD_set (by rw [List.length_set, List.length_set]; omega), getD_set (by rw [List.length_set]; omega), getD_set (by omega)]
    refine ⟨kg_a (kg_a g 30 xs) 32 ((g.2.1 32).set t 0), ?_, vfr_a (vfr_a g2 (b := 30) (by omega) lx) (b := 32) (by omega) (by rw [List.length_set]; exact l32), g3, g4, fun i hi => ?_⟩
    · show fX11_show_78 kN (m + 1) g (nI t) = fX11_show_78 kN m (kg_a (kg_a g 30 xs) 32 ((g.2.1 32).set t 0)) (nI (t + 1))
      rw [fX11_show_78, hT3, if_neg (m_loop (by omega) ht), kn_5, kn_4, kn_succ, kn_succ, kn_succ, kn_p2, kn_p2, kn_p3, kn_p3, e29, (h29 (5 * t) (by omega)).2, Option.bind_some, s0, kn_p (by omega) (by omega), Option.bind_some, (h29 (5 * t + 1) (by omega)).2, Option.bind_some, s1, kn_p (by rw [List.length_set]; omega) (by rw [List.length_set]; omega), Option.bind_some, (h29 (5 * t + 2) (by omega)).2, Option.bind_some, s2, kn_p (by rw [List.length_set, List.length_set]; omega) (by rw [List.length_set, List.length_set]; omega), Option.bind_some, (h29 (5 * t + 3) (by omega)).2, Option.bind_some, s3, kn_p (by rw [List.length_set, List.length_set, List.length_set]; omega) (by rw [List.length_set, List.length_set, List.length_set]; omega), Option.bind_some, kn_p (by omega) (by omega), Option.bind_some, kg_aa, kg_aa, kg_aa]
    · show xs.getD (4 * i) 0 = _ ∧ xs.getD (4 * i + 1) 0 = _ ∧ xs.getD (4 * i + 2) 0 = _ ∧ xs.getD (4 * i + 3) 0 = _ ∧ ((g.2.1 32).set t 0).getD i 0 = 0
      rw [gx, gx, gx, gx, getD_set (by omega)]
      by_cases e : i = t
      · subst e
        rw [if_neg (by omega), if_neg (by omega), if_neg (by omega), if_pos rfl, if_neg (by omega), if_neg (by omega), if_pos rfl, if_neg (by omega), if_pos rfl, if_pos rfl, if_pos rfl]
        exact ⟨rfl, rfl, rfl, rfl, rfl⟩
      · rw [if_neg (by omega), if_neg (by omega), if_neg (by omega), if_neg (by omega), if_neg (by omega), if_neg (by omega), if_neg (by omega), if_neg (by omega), if_neg (by omega), if_neg (by omega), if_neg (by omega), if_neg (by omega), if_neg (by omega), if_neg (by omega), if_neg (by omega), if_neg (by omega), if_neg e]
        exact g5 i (by omega))
  refine ⟨g, ?_, g2, g3, g4, g5⟩
  refine Eq.trans e1 ?_
  show fX11_show_78 kN (n' + 1) g (nI T) = _
  rw [fX11_show_78, (g3 3).trans h3, if_pos (Int32.le_refl _)]
theorem m_show189 (hs : jsh c te n T np) (hf : vfr G0 S) (h4' : S.1 28 4 = nI np) (h2' : S.1 28 2 = nI te) (h29 : ∀ i, i < n → c i < 127 ∧ kv_g (G0.2.1 29) (nI i) = some (nI (c i))) : ∃ G1, fX11_show_189 kN kN S 0 = some (S.1 28 3, kg_i (kg_i (kg_i (kg_i (kg_i (kg_i (kg_i (kg_i (kg_i G1 28 5 0) 28 6 0) 28 7 0) 28 8 0) 28 9 0) 28 10 0) 28 23 0) 28 11 ((S.1 28 11) + 1)) 28 1 0) ∧ vfr G0 G1 ∧ (∀ j, G1.1 28 j = S.1 28 j) ∧ G1.2.1 30 = S.2.1 30 ∧ G1.2.1 32 = S.2.1 32 ∧ ∀ p, p < np → kA G1 31 (3 * p) = nI (c (te + 1 + 2 * p) - 48) ∧ kA G1 31 (3 * p + 1) = nI (c (te + 2 + 2 * p) - 48) ∧ kA G1 31 (3 * p + 2) = 0 := by
  obtain ⟨h1, h2, h3', h4, h5, h6, h7, h8⟩ := hs
  obtain ⟨n', g, e1, g2, g3, g4, g5, g6⟩ := kl_inv (fun m g i => fX11_show_189 kN m g i) (fun t g => vfr G0 g ∧ (∀ j, g.1 28 j = S.1 28 j) ∧ g.2.1 30 = S.2.1 30 ∧ g.2.1 32 = S.2.1 32 ∧ ∀ p, p < t → kA g 31 (3 * p) = nI (c (te + 1 + 2 * p) - 48) ∧ kA g 31 (3 * p + 1) = nI (c (te + 2 + 2 * p) - 48) ∧ kA g 31 (3 * p + 2) = 0) np (n := kN) (a := S) (by have := kN_gt; omega) ⟨hf, fun _ => rfl, rfl, rfl, fun i hi => by omega⟩ (by
    intro m g t ht ⟨g2, g3, g4, g5, g6⟩
    have l31 : (g.2.1 31).length = 15 := g2.1 31 (by decide)
    have e29 : g.2.1 29 = G0.2.1 29 := g2.2.2.2 29 (by decide) (by decide) (by decide)
    have hT4 : g.1 28 4 = nI np := (g3 4).trans h4'
    have hT2 : g.1 28 2 = nI te := (g3 2).trans h2'
    have d1 := of_decide_eq_true (h8 t ht).1
    have d2 := of_decide_eq_true (h8 t ht).2
    have s1 : nI (c (te + 1 + 2 * t)) - 48 = nI (c (te + 1 + 2 * t) - 48) := kn_sub (a := c (te + 1 + 2 * t)) (b := 48) (by omega)
    have s2 : nI (c (te + 2 + 2 * t)) - 48 = nI (c (te + 2 + 2 * t) - 48) := kn_sub (a := c (te + 2 + 2 * t)) (b := 48) (by omega)
    let xs := (((g.2.1 31).set (3 * t) (nI (c (te + 1 + 2 * t) - 48))).set (3 * t + 1) (nI (c (te + 2 + 2 * t) - 48))).set (3 * t + 2) 0
    have lx : xs.length = 15 := by show ((((g.2.1 31).set _ _).set _ _).set _ _).length = 15; rw [List.length_set, List.length_set, List.length_set, l31]
    have gx : ∀ r, xs.getD r 0 = if r = 3 * t + 2 then 0 else if r = 3 * t + 1 then nI (c (te + 2 + 2 * t) - 48) else if r = 3 * t then nI (c (te + 1 + 2 * t) - 48) else (g.2.1 31).getD r 0 := by
      intro r
      show ((((g.2.1 31).set _ _).set _ _).set _ _).getD r 0 = _
      rw [getD_set (by rw [List.length_set, List.length_set]; omega), getD_set (by rw [List.length_set]; omega), getD_set (by omega)]
    refine ⟨kg_a g 31 xs, ?_, vfr_a g2 (b := 31) (by omega) lx, g3, g4, g5, fun p hp => ?_⟩
    · show fX11_show_189 kN (m + 1) g (nI t) = fX11_show_189 kN m (kg_a g 31 xs) (nI (t + 1))
      rw [fX11_show_189, hT4, if_neg (m_loop (by omega) ht), hT2, kn_2, kn_3, kn_succ, kn_succ, kn_succ, kn_p2, kn_p2, kn_add, kn_add, e29, (h29 (te + 1 + 2 * t) (by omega)).2, Option.bind_some, s1, kn_p (by omega) (by omega), Option.bind_some, (h29 (te + 2 + 2 * t) (by omega)).2, Option.bind_some, s2, kn_p (by rw [List.length_set]; omega) (by rw [List.length_set]; omega), Option.bind_some, kn_p (by rw [List.length_set, List.length_set]; omega) (by rw [List.length_set, List.length_set]; omega), Option.bind_some, kg_aa, kg_aa]
    · show xs.getD (3 * p) 0 = _ ∧ xs.getD (3 * p + 1) 0 = _ ∧ xs.getD (3 * p + 2) 0 = _
      rw [gx, gx, gx]
      by_cases e : p = t
      · subst e
        rw [if_neg (by omega), if_neg (by omega), if_pos rfl, if_neg (by omega), if_pos rfl, if_pos rfl]
        exact ⟨rfl, rfl, rfl⟩
      · rw [if_neg (by omega), if_neg (by omega), if_neg (by omega), if_neg (by omega), if_neg (by omega), if_neg (by omega), if_neg (by omega), if_neg (by omega), if_neg (by omega)]
        exact g6 p (by omega))
  refine ⟨g, ?_, g2, g3, g4, g5, g6⟩
  refine Eq.trans e1 ?_
  show fX11_show_189 kN (n' + 1) g (nI np) = _
  have e11 : g.1 28 11 = S.1 28 11 := g3 11
  have e3 : g.1 28 3 = S.1 28 3 := g3 3
  rw [fX11_show_189, (g3 4).trans h4', if_pos (Int32.le_refl _), e11, e3]
end VS
