/-! THE STATE: what holds between two orders -/
def kA (G : kg_G) (a i : Nat) : Int32 := (G.2.1 a).getD i 0
def jLen (a : Nat) : Nat := if a = 2 ∨ a = 29 then 36 else if a = 22 then 32 else if a = 30 then 20 else if a = 31 ∨ a = 42 then 15 else if a = 33 then 80 else if a = 38 ∨ a = 44 then 24 else if a = 8 ∨ a = 9 ∨ a = 15 ∨ a = 16 then 8 else 5
def jLn (G : kg_G) : Prop := ∀ a ∈ kg_arrs, (G.2.1 a).length = jLen a
def jP (G : kg_G) : Prop := G.2.1 2 = G.2.1 29 ∧ G.1 1 1 = G.1 28 1 ∧ ∃ n, n ≤ 36 ∧ G.1 28 1 = nI n ∧ ∀ i, i < n → ∃ c, 1 ≤ c ∧ c ≤ 126 ∧ kA G 29 i = nI c
def jq (q : tk_Q) : Prop := (q.1 = 1 ∨ q.1 = 3 ∨ q.1 = 5 ∨ q.1 = 6 ∨ q.1 = 8) ∧ ∃ h n d, h < 8 ∧ 1 ≤ n ∧ n ≤ 4 ∧ d ≤ 9 ∧ q.2 = (nI h, nI n, nI d)
def jB (G : kg_G) (T np : Nat) (q : Nat → tk_Q) : Prop := ∃ (t : Nat) (ws : List (Option Nat)) (x : Nat → Nat), kg_bl (kg_Y G) G.2.2.2.1 = some (t, nI np) ∧ kg_ta (kg_Y G) t = some ws ∧ ws.length = T ∧ ∀ i, i < T → kv_q ws (nI i) = some (x i) ∧ kg_tr (kg_Y G) (x i) = some (q i)
def jR (G : kg_G) (T np : Nat) (q : Nat → tk_Q) : Prop := G.1 28 3 = nI T ∧ G.1 28 4 = nI np ∧ ∀ i, i < T → kA G 30 (4 * i) = tk_kind (q i) ∧ kA G 30 (4 * i + 1) = (q i).2.1 ∧ kA G 30 (4 * i + 2) = (q i).2.2.1 ∧ kA G 30 (4 * i + 3) = (q i).2.2.2
abbrev jD : Type := Nat × (Nat → Int32) × (Nat → Int32) × (Nat → Int32) × (Nat → Nat) × (Nat → Int32) × Nat × (Nat → Nat × Nat × Bool)
abbrev jk (D : jD) : Nat := D.1
abbrev jst (D : jD) : Nat → Int32 := D.2.1
abbrev jtw (D : jD) : Nat → Int32 := D.2.2.1
abbrev jhd (D : jD) : Nat → Int32 := D.2.2.2.1
abbrev jcs (D : jD) : Nat → Nat := D.2.2.2.2.1
abbrev jit (D : jD) : Nat → Int32 := D.2.2.2.2.2.1
abbrev jsn (D : jD) : Nat := D.2.2.2.2.2.2.1
abbrev jsg (D : jD) : Nat → Nat × Nat × Bool := D.2.2.2.2.2.2.2
def jss (q : tk_Q) (b : Bool) : Int32 := if b then tk_suitedStrongs q else 1023 &&& (tk_suitedStrongs q ^^^ (-1))
/-- a troupe of the class, from address c on -/
def jTC (G : kg_G) (q : Nat → tk_Q) (c : Nat) (D : jD) : Prop :=
  G.1 c 6 = nI (jk D) ∧ (∀ p, p < 5 → (jk D).testBit p → kA G (c + 1) p = jst D p ∧ kA G (c + 2) p = jtw D p ∧ kA G (c + 3) p = jhd D p) ∧ (∀ t, t < 5 → kA G (c + 4) t = nI (jcs D t) ∧ fJ6_bitCount_0f7a4 (nI (jcs D t)) ≤ tk_crew (q t)) ∧ (∀ j, 7 ≤ j → j ≤ 12 → G.1 c j = jit D j) ∧ G.1 c 13 = nI (jsn D) ∧ ∀ i, i < jsn D → kA G (c + 5) i = nI (jsg D i).1 ∧ kA G (c + 6) i = jss (q (jsg D i).2.1) (jsg D i).2.2
/-- the same of the reference -/
def jTM (G : kg_G) (T np : Nat) (fo ca si : Nat) (mi : Nat → Nat) (D : jD) : Prop :=
  (∀ p, p < np → kA G fo (3 * p) = (if (jk D).testBit p then jst D p else -1) ∧ kA G fo (3 * p + 1) = (if (jk D).testBit p then jtw D p else -1) ∧ kA G fo (3 * p + 2) = (if (jk D).testBit p then jhd D p else 0)) ∧ (∀ t, t < T → kA G ca t = nI (jcs D t)) ∧ (∀ j, 7 ≤ j → j ≤ 12 → G.1 28 (mi j) = jit D j) ∧ G.1 28 (mi 13) = nI (jsn D) ∧ ∀ i, i < jsn D → kA G si (3 * i) = nI (jsg D i).1 ∧ kA G si (3 * i + 1) = nI (jsg D i).2.1 ∧ kA G si (3 * i + 2) = (if (jsg D i).2.2 then 1 else 0)
def jmc (j : Nat) : Nat := if j = 13 then 23 else j - 2
def jmk (j : Nat) : Nat := j + 24
def jV (T np : Nat) (D : jD) : Prop := jk D < 2 ^ np ∧ (∀ p, p < 5 → (jk D).testBit p → (∃ s, s ≤ 9 ∧ jst D p = nI s) ∧ ∃ w, w ≤ 5 ∧ jtw D p = nI w) ∧ (∀ t, t < 5 → jcs D t < 32 ∧ jcs D t &&& jk D = jcs D t ∧ (T ≤ t → jcs D t = 0)) ∧ (∃ w, w ≤ 5 ∧ jit D 7 = nI w) ∧ (∃ n, n ≤ 99 ∧ jit D 8 = nI n) ∧ jsn D ≤ 8 ∧ ∀ i, i < jsn D → (jsg D i).1 < np ∧ (jsg D i).2.1 < T
def jU (T np : Nat) (q : Nat → tk_Q) : Prop := T ≤ 5 ∧ np ≤ 5 ∧ (T = 0 → np = 0) ∧ ∀ i, i < T → jq (q i)
/-- how many: shows, mosts, fewests, spares -/
def jN (k : Nat) (G : kg_G) : Prop := (∃ r, r ≤ k ∧ G.1 0 7 = nI r ∧ G.1 28 11 = nI r ∧ ((G.1 0 6 = 1 ∧ G.1 28 30 = nI r) ∨ (G.1 0 6 = 0 ∧ (G.1 28 30 = -1 ∨ ∃ s, s < r ∧ G.1 28 30 = nI s)))) ∧ (∃ a, a ≤ 16 ∧ G.1 0 8 = nI a ∧ G.1 28 15 = nI a) ∧ (∃ a, a ≤ 6 ∧ G.1 0 9 = nI a ∧ G.1 28 21 = nI a) ∧ (∃ a, a ≤ 6 ∧ G.1 0 10 = nI a ∧ G.1 28 22 = nI a)
def jJ (k : Nat) (G : kg_G) : Prop := jLn G ∧ jP G ∧ G.2.1 22 = kp_T ∧ jN k G ∧ ∃ T np q D, jU T np q ∧ jB G T np q ∧ jR G T np q ∧ jTC G q 3 D ∧ jTM G T np 31 32 38 jmc D ∧ jV T np D ∧ (G.1 0 6 = 1 → ∃ D', jTC G q 10 D' ∧ jTM G T np 42 43 44 jmk D' ∧ jV T np D')
abbrev jD0 : jD := (0, fun _ => 0, fun _ => 0, fun _ => 0, fun _ => 0, fun _ => 0, 0, fun _ => (0, 0, false))
theorem jJ_0 : jJ 0 kg_0 := by
  refine ⟨by unfold jLn; decide, ⟨rfl, rfl, 0, by omega, rfl, fun i hi => by omega⟩, rfl, ⟨⟨0, by omega, rfl, rfl, Or.inr ⟨rfl, Or.inl rfl⟩⟩, ⟨0, by omega, rfl, rfl⟩, ⟨0, by omega, rfl, rfl⟩, ⟨0, by omega, rfl, rfl⟩⟩, 0, 0, fun _ => (8, 0, 0, 0), jD0, ⟨by omega, by omega, fun _ => rfl, fun i hi => by omega⟩, ⟨27, [], fun _ => 0, rfl, rfl, rfl, fun i hi => by omega⟩, ⟨rfl, rfl, fun i hi => by omega⟩, ⟨rfl, ?_, ?_, ?_, rfl, ?_⟩, ⟨fun i hi => by omega, fun i hi => by omega, ?_, rfl, ?_⟩, ⟨by decide, ?_, ?_, ⟨0, by omega, rfl⟩, ⟨0, by omega, rfl⟩, Nat.zero_le _, ?_⟩, ?_⟩
  · intro p hp h; exact absurd h (by show ¬ (Nat.testBit 0 p = true); simp)
  · decide
  · intro j h1 h2
    show (fun a k => if a = 28 ∧ k = 30 then (-1 : Int32) else 0) 3 j = 0
    show (if (3 : Nat) = 28 ∧ j = 30 then (-1 : Int32) else 0) = 0
    rw [if_neg (by omega)]
  · intro i hi; exact absurd hi (Nat.not_lt_zero _)
  · intro j h1 h2
    show (if (28 : Nat) = 28 ∧ jmc j = 30 then (-1 : Int32) else 0) = 0
    rw [if_neg (by unfold jmc; split <;> omega)]
  · intro i hi; exact absurd hi (Nat.not_lt_zero _)
  · intro p hp h; exact absurd h (by show ¬ (Nat.testBit 0 p = true); simp)
  · intro t ht; exact ⟨(by decide : (0 : Nat) < 32), (by decide : (0 : Nat) &&& 0 = 0), fun _ => rfl⟩
  · intro i hi; exact absurd hi (Nat.not_lt_zero _)
  · intro h; exact absurd h (by decide)
theorem jJ_m : ∀ k G, jJ k G → jJ (k + 1) G := by
  intro k G ⟨h1, h2, h3, ⟨⟨r, hr, h4⟩, h5⟩, h6⟩
  exact ⟨h1, h2, h3, ⟨⟨r, by omega, h4⟩, h5⟩, h6⟩
theorem jJ_s : ∀ k G, jJ k G → kv_sl (kg_w G) ≤ 3000 + kv_sl (kg_Y G) := by
  intro k G ⟨h1, _⟩
  have q : ∀ a, a ∈ kg_arrs → (G.2.1 a).length = jLen a := h1
  simp only [kg_arrs, List.forall_mem_cons] at q
  simp only [kg_w, kg_Y, kv_sl, kv_cs, q, List.length_cons, List.length_nil]
  have q1 : jLen 2 = 36 ∧ jLen 4 = 5 ∧ jLen 5 = 5 ∧ jLen 6 = 5 ∧ jLen 7 = 5 ∧ jLen 8 = 8 ∧ jLen 9 = 8 ∧ jLen 11 = 5 ∧ jLen 12 = 5 ∧ jLen 13 = 5 ∧ jLen 14 = 5 ∧ jLen 15 = 8 ∧ jLen 16 = 8 ∧ jLen 18 = 5 ∧ jLen 19 = 5 ∧ jLen 20 = 5 ∧ jLen 21 = 5 ∧ jLen 22 = 32 ∧ jLen 24 = 5 ∧ jLen 25 = 5 := by decide
  have q2 : jLen 29 = 36 ∧ jLen 30 = 20 ∧ jLen 31 = 15 ∧ jLen 32 = 5 ∧ jLen 33 = 80 ∧ jLen 34 = 5 ∧ jLen 35 = 5 ∧ jLen 36 = 5 ∧ jLen 37 = 5 ∧ jLen 38 = 24 ∧ jLen 39 = 5 ∧ jLen 40 = 5 ∧ jLen 41 = 5 ∧ jLen 42 = 15 ∧ jLen 43 = 5 ∧ jLen 44 = 24 := by decide
  omega
