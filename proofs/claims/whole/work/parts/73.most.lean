/-! MOST, FILL: what stays as it was -/
def pfr (G0 G2 : kg_G) : Prop := jLn G2 ∧ (∀ a j, a ≠ 17 → G2.1 a j = G0.1 a j) ∧ G2.2.2 = G0.2.2 ∧ ∀ a, ¬ (18 ≤ a ∧ a ≤ 21) → ¬ (33 ≤ a ∧ a ≤ 37) → G2.2.1 a = G0.2.1 a
theorem pfr_of {G G1 G2 : kg_G} {c e y : Nat} {v w : Int32} (h1 : xfr (kg_i G c e v) G1) (h2 : mfr (kg_i G1 28 y w) G2) : pfr (kg_i (kg_i G c e v) 28 y w) G2 := by
  refine ⟨h2.1, fun a j ha => ?_, h2.2.2.1.trans h1.2.2.1, fun a h3 h4 => (h2.2.2.2 a (by omega)).trans (h1.2.2.2 a (by omega))⟩
  rw [h2.2.1]
  show (if a = 28 then if j = y then w else G1.1 a j else G1.1 a j) = (if a = 28 then if j = y then w else (kg_i G c e v).1 a j else (kg_i G c e v).1 a j)
  rw [h1.2.1 a j ha]
theorem jJ_plan {k : Nat} {G G2 : kg_G} {T np : Nat} {q : Nat → tk_Q} {D : jD} {x y : Nat} {v : Int32} (hP : jP G) (hA : G.2.1 22 = kp_T) (hU : jU T np q) (hB : jB G T np q) (hR : jR G T np q) (hC : jTC G q 3 D) (hM : jTM G T np 31 32 38 jmc D) (hV : jV T np D) (hK : G.1 0 6 = 1 → ∃ D', jTC G q 10 D' ∧ jTM G T np 42 43 44 jmk D' ∧ jV T np D') (hxy : (x = 8 ∧ y = 15) ∨ (x = 9 ∧ y = 21) ∨ (x = 10 ∧ y = 22)) (hN0 : jN k (kg_i (kg_i G 0 x v) 28 y v)) (hL2 : jLn G2) (e1 : ∀ a j, a ≠ 17 → G2.1 a j = (kg_i (kg_i G 0 x v) 28 y v).1 a j) (e2 : G2.2.2 = G.2.2) (e3 : ∀ a, ¬ (18 ≤ a ∧ a ≤ 21) → ¬ (33 ≤ a ∧ a ≤ 37) → a ≠ 7 → a ≠ 32 → G2.2.1 a = G.2.1 a) (f : Nat → Nat) (e7 : ∀ t, t < 5 → kA G2 7 t = nI (f t) ∧ fJ6_bitCount_0f7a4 (nI (f t)) ≤ tk_crew (q t)) (e32 : ∀ t, t < T → kA G2 32 t = nI (f t)) (hf : ∀ t, t < 5 → f t < 32 ∧ f t &&& jk D = f t ∧ (T ≤ t → f t = 0)) : jJ (k + 1) G2 := by
  have hP0 : jP (kg_i (kg_i G 0 x v) 28 y v) := by
    rcases hxy with ⟨rfl, rfl⟩ | ⟨rfl, rfl⟩ | ⟨rfl, rfl⟩ <;> exact hP
  have hR0 : jR (kg_i (kg_i G 0 x v) 28 y v) T np q := by
    rcases hxy with ⟨rfl, rfl⟩ | ⟨rfl, rfl⟩ | ⟨rfl, rfl⟩ <;> exact hR
  have hK0 : (kg_i (kg_i G 0 x v) 28 y v).1 0 6 = 1 → ∃ D', jTC (kg_i (kg_i G 0 x v) 28 y v) q 10 D' ∧ jTM (kg_i (kg_i G 0 x v) 28 y v) T np 42 43 44 jmk D' ∧ jV T np D' := by
    intro h
    have h' : G.1 0 6 = 1 := by
      rcases hxy with ⟨rfl, rfl⟩ | ⟨rfl, rfl⟩ | ⟨rfl, rfl⟩ <;> exact h
    obtain ⟨D', k1, k2, k3⟩ := hK h'
    refine ⟨D', k1, ?_, k3⟩
    rcases hxy with ⟨rfl, rfl⟩ | ⟨rfl, rfl⟩ | ⟨rfl, rfl⟩ <;> exact jTM_of k2 (j713 rfl rfl rfl rfl rfl rfl rfl) rfl rfl rfl
  have hM0 : jTM (kg_i (kg_i G 0 x v) 28 y v) T np 31 32 38 jmc D := by
    rcases hxy with ⟨rfl, rfl⟩ | ⟨rfl, rfl⟩ | ⟨rfl, rfl⟩ <;> exact jTM_of hM (j713 rfl rfl rfl rfl rfl rfl rfl) rfl rfl rfl
  obtain ⟨c1, c2, c3, c4, c5, c6⟩ := hC
  obtain ⟨m1, m2, m3, m4, m5⟩ := hM0
  obtain ⟨v1, v2, v3, v4, v5, v6, v7⟩ := hV
  have kA2 : ∀ a i, ¬ (18 ≤ a ∧ a ≤ 21) → ¬ (33 ≤ a ∧ a ≤ 37) → a ≠ 7 → a ≠ 32 → kA G2 a i = kA G a i := fun a i h1 h2 h3 h4 => by unfold kA; rw [e3 a h1 h2 h3 h4]
  refine jJ_F (G := kg_i (kg_i G 0 x v) 28 y v) (D := jDc D f) hL2 hP0 hA hN0 hU hB hR0 hK0 ⟨fun a ha => ?_, fun j _ => e1 28 j (by decide), fun j => e1 0 j (by decide), fun j => e1 1 j (by decide), fun j => e1 10 j (by decide), congrArg (fun z => z.2) e2⟩ ⟨?_, fun p hp hb => ?_, e7, fun j h1 h2 => ?_, ?_, fun i hi => ?_⟩ ⟨fun p hp => ?_, e32, fun j h1 h2 => ?_, ?_, fun i hi => ?_⟩ ⟨v1, v2, hf, v4, v5, v6, v7⟩
  · have : a ∈ [2, 22, 29, 30, 11, 12, 13, 14, 15, 16, 42, 43, 44] := ha
    simp only [List.mem_cons, List.not_mem_nil, or_false] at this
    exact e3 a (by omega) (by omega) (by omega) (by omega)
  · rw [e1 3 6 (by decide)]; exact c1
  · rw [kA2 _ _ (by omega) (by omega) (by omega) (by omega), kA2 _ _ (by omega) (by omega) (by omega) (by omega), kA2 _ _ (by omega) (by omega) (by omega) (by omega)]
    exact c2 p hp hb
  · rw [e1 3 j (by decide)]; exact c4 j h1 h2
  · rw [e1 3 13 (by decide)]; exact c5
  · rw [kA2 _ _ (by omega) (by omega) (by omega) (by omega), kA2 _ _ (by omega) (by omega) (by omega) (by omega)]
    exact c6 i hi
  · rw [kA2 _ _ (by omega) (by omega) (by omega) (by omega), kA2 _ _ (by omega) (by omega) (by omega) (by omega), kA2 _ _ (by omega) (by omega) (by omega) (by omega)]
    exact m1 p hp
  · rw [e1 28 _ (by decide)]; exact m3 j h1 h2
  · rw [e1 28 _ (by decide)]; exact m4
  · rw [kA2 _ _ (by omega) (by omega) (by omega) (by omega), kA2 _ _ (by omega) (by omega) (by omega) (by omega), kA2 _ _ (by omega) (by omega) (by omega) (by omega)]
    exact m5 i hi
/-- the reference's state, its counts and the class's planner aside -/
theorem jM_of2 {N : Nat} {G G1 : kg_G} {T np : Nat} {q : Nat → tk_Q} {D : jD} (h : jM N G T np q D) (hL : jLn G1) (e1 : ∀ j, j ≠ 15 → j ≠ 21 → j ≠ 22 → G1.1 28 j = G.1 28 j) (e2 : ∀ a, a ∈ [30, 31, 32, 38] → G1.2.1 a = G.2.1 a) : jM N G1 T np q D := by
  obtain ⟨h1, h2, h3, h4, h5, h6⟩ := h
  refine ⟨hL, h2, jR_of h3 (e1 3 (by decide) (by decide) (by decide)) (e1 4 (by decide) (by decide) (by decide)) (e2 30 (by decide)), jTM_of h4 (fun j hj1 hj2 => e1 _ ?_ ?_ ?_) (e2 31 (by decide)) (e2 32 (by decide)) (e2 38 (by decide)), h5, h6⟩ <;> (unfold jmc; split <;> omega)
/-- a planner between searches -/
def kst (P S : kg_G) : Prop := ∃ aw v xs ys, xs.length = 5 ∧ ys.length = 5 ∧ S = ks P aw v xs ys
theorem kst_self {P : kg_G} (h : jLn P) : kst P P := ⟨_, _, _, _, h 18 (by decide), h 19 (by decide), (ks_self P).symm⟩
theorem x_searchS {N : Nat} {P S : kg_G} {T : Nat} {q : Nat → tk_Q} {st : Nat → Int32} (hN : 100 < N) (hL : jLn P) (h : kpq P T q st) (hS : kst P S) {p : Nat} (hp : p < 32) {fl : Int} (hf : -1 ≤ fl ∧ fl ≤ 5) : ∃ S', fX4_search N S (nI p) (iI fl) = some (iI (svis (fl, fun _ => 0) (((sB T q st p).1 : Int), (sB T q st p).2)).1, S') ∧ kst P S' ∧ kxs (S'.2.1 18) (svis (fl, fun _ => 0) (((sB T q st p).1 : Int), (sB T q st p).2)).2 T := by
  obtain ⟨aw, v, xs, ys, hx, hy, rfl⟩ := hS
  obtain ⟨xs', ys', c1, c2, c3⟩ := x_search hN hL h (aw := aw) (v := v) hx hy hp hf
  exact ⟨_, c1, ⟨_, _, _, _, c2.1, c3, rfl⟩, c2⟩
section MO
variable {N : Nat} {G : kg_G} {T np : Nat} {q : Nat → tk_Q} {D : jD}
theorem x_planMost (h : jX N G T np q D) (hA : G.2.1 22 = kp_T) : ∃ G1, fX10_planMost N G = some (nI (sB T q (jst D) (jk D)).1, G1) ∧ xfr (kg_i G 0 8 ((G.1 0 8) + 1)) G1 ∧ kxs (G1.2.1 18) (sB T q (jst D) (jk D)).2 T := by
  have hN := h.2.2.2.2.2
  have hk := jk32 h.2.2.2.2.1 h.2.1
  have h8 : jX N (kg_i G 0 8 ((G.1 0 8) + 1)) T np q D := jX_of h h.1 (fun _ => rfl) (fun _ _ _ => rfl) rfl
  obtain ⟨P, p1, p2, p3, p4, p5⟩ := x_prep2 h8 hA
  obtain ⟨S, s1, s2, s3⟩ := x_searchS hN p3 p2 (kst_self p3) hk (fl := -1) ⟨by decide, by decide⟩
  have ec : sB T q (kA (kg_i G 0 8 ((G.1 0 8) + 1)) 4) (jk D) = sB T q (jst D) (jk D) := sB_congr hk (fun i hi hb => (h.2.2.2.1.2.1 i hi hb).1)
  have es : svis (-1, fun _ => 0) (((sB T q (jst D) (jk D)).1 : Int), (sB T q (jst D) (jk D)).2) = (((sB T q (jst D) (jk D)).1 : Int), (sB T q (jst D) (jk D)).2) := by
    unfold svis
    rw [if_pos (by show (-1 : Int) < ((sB T q (jst D) (jk D)).1 : Int); omega)]
  rw [ec, es] at s1 s3
  obtain ⟨aw, v, xs, ys, hx, hy, rfl⟩ := s2
  refine ⟨_, ?_, p4 aw v xs ys hx hy, s3⟩
  unfold fX10_planMost
  have e36 : P.1 3 6 = nI (jk D) := (p5.2.1 3 6 (by decide)).trans h.2.2.2.1.1
  have p1' : fX4_prepare N (kg_i G 0 8 ((G.1 0 8) + 1)) G.2.2.2.1 = some P := p1
  have s1' : fX4_search N P (nI (jk D)) (-1) = _ := s1
  rw [p1', Option.bind_some, e36, s1', Option.bind_some]
  rfl
end MO
