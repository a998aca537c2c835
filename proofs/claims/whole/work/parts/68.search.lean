/-! THE CLASS'S SEARCH: search; what the best row holds -/
theorem x_fill {N : Nat} {G : kg_G} (hN : 100 < N) (hL : jLn G) {a : Nat} (ha : a ∈ kg_arrs) (hs : jLen a < 90) : fJ7_fill_53178 N G a 0 = some (kg_a G a (kmap (fun _ _ => 0) (jLen a) (G.2.1 a))) := by
  unfold fJ7_fill_53178 kg_le
  rw [if_pos ha, Option.bind_some, hL a ha]
  refine kl_map (fun n b g i => fJ7_fill_53178_5 N n g a 0 i (nI (jLen a))) a G (fun _ _ => 0) (fun _ _ b => b) (jLen a) (fun _ g => some g) ha hL (Nat.le_refl _) (n := N) (c := 0) (by omega) ?_ ?_
  · intro n b xs hx
    show fJ7_fill_53178_5 N (n + 1) (kg_a G a xs) a 0 (nI (jLen a)) (nI (jLen a)) = _
    rw [fJ7_fill_53178_5, if_pos (Int32.le_refl _)]
  · intro n b xs j hj hx hg
    show fJ7_fill_53178_5 N (n + 1) (kg_a G a xs) a 0 (nI j) (nI (jLen a)) = fJ7_fill_53178_5 N n (kg_a G a (xs.set j 0)) a 0 (nI (j + 1)) (nI (jLen a))
    rw [fJ7_fill_53178_5, if_neg (m_loop (by omega) hj)]
    unfold kg_sd
    rw [if_pos ha, kv_pa hx hj (by omega)]
    simp only [Option.map_some, Option.bind_some, kg_aa, kn_succ]
/-- the planner between searches -/
def ks (G : kg_G) (aw v : Int32) (xs ys : List Int32) : kg_G := kf (kg_i G 17 6 aw) v xs ys
theorem ks_i (G : kg_G) (aw v aw2 v2 : Int32) (xs ys : List Int32) : kg_i (kg_i (ks G aw v xs ys) 17 6 aw2) 17 7 v2 = ks G aw2 v2 xs ys := by
  unfold ks kf kg_a kg_i
  refine Prod.ext ?_ rfl
  funext a j
  show (if a = 17 then if j = 7 then v2 else (if a = 17 then if j = 6 then aw2 else (if a = 17 then if j = 7 then v else (if a = 17 then if j = 6 then aw else G.1 a j else G.1 a j) else (if a = 17 then if j = 6 then aw else G.1 a j else G.1 a j)) else (if a = 17 then if j = 7 then v else (if a = 17 then if j = 6 then aw else G.1 a j else G.1 a j) else (if a = 17 then if j = 6 then aw else G.1 a j else G.1 a j))) else (if a = 17 then if j = 6 then aw2 else (if a = 17 then if j = 7 then v else (if a = 17 then if j = 6 then aw else G.1 a j else G.1 a j) else (if a = 17 then if j = 6 then aw else G.1 a j else G.1 a j)) else (if a = 17 then if j = 7 then v else (if a = 17 then if j = 6 then aw else G.1 a j else G.1 a j) else (if a = 17 then if j = 6 then aw else G.1 a j else G.1 a j)))) = (if a = 17 then if j = 7 then v2 else (if a = 17 then if j = 6 then aw2 else G.1 a j else G.1 a j) else (if a = 17 then if j = 6 then aw2 else G.1 a j else G.1 a j))
  by_cases z1 : a = 17
  · by_cases z2 : j = 7
    · simp [z1, z2]
    · by_cases z3 : j = 6
      · simp [z1, z3]
      · simp [z1, z2, z3]
  · simp [z1]
theorem kf_18 (G : kg_G) (v : Int32) (xs ys xs2 : List Int32) : kg_a (kf G v xs ys) 18 xs2 = kf G v xs2 ys := by
  unfold kf kg_a
  refine congrArg (fun z => ((kg_i G 17 7 v).1, z, (kg_i G 17 7 v).2.2)) ?_
  funext b
  show (if b = 18 then xs2 else if b = 19 then ys else if b = 18 then xs else G.2.1 b) = (if b = 19 then ys else if b = 18 then xs2 else G.2.1 b)
  by_cases h1 : b = 18
  · subst h1; rfl
  · rw [if_neg h1, if_neg h1, if_neg h1]
theorem ks_self (G : kg_G) : ks G (G.1 17 6) (G.1 17 7) (G.2.1 18) (G.2.1 19) = G := by
  unfold ks kf kg_a kg_i
  refine Prod.ext ?_ (Prod.ext ?_ rfl)
  · funext a j
    show (if a = 17 then if j = 7 then G.1 17 7 else (if a = 17 then if j = 6 then G.1 17 6 else G.1 a j else G.1 a j) else (if a = 17 then if j = 6 then G.1 17 6 else G.1 a j else G.1 a j)) = G.1 a j
    by_cases z1 : a = 17
    · by_cases z2 : j = 7
      · simp [z1, z2]
      · by_cases z3 : j = 6
        · simp [z1, z3]
        · simp [z1, z2, z3]
    · simp [z1]
  · funext b
    show (if b = 19 then G.2.1 19 else if b = 18 then G.2.1 18 else G.2.1 b) = G.2.1 b
    by_cases z1 : b = 19
    · rw [if_pos z1, z1]
    · by_cases z2 : b = 18
      · rw [if_neg z1, if_pos z2, z2]
      · rw [if_neg z1, if_neg z2]
theorem kb_away : ∀ p, p < 32 → (31 : Int32) &&& (nI p ^^^ (-1)) = nI (31 ^^^ p) ∧ 31 ^^^ p < 32 := by decide +kernel
theorem kb_away2 : ∀ p, p < 32 → ∀ s, s < 32 → decide (s &&& (31 ^^^ p) = 0) = decide (s &&& p = s) := by decide +kernel
theorem ks_len {G : kg_G} (hL : jLn G) {aw v : Int32} {xs ys : List Int32} (hx : xs.length = 5) (hy : ys.length = 5) : jLn (ks G aw v xs ys) := jLn_a (jLn_a hL hx) hy
/-- what a search of some people finds -/
def sB (T : Nat) (q : Nat → tk_Q) (st : Nat → Int32) (p : Nat) : Nat × (Nat → Nat) := sV (sop (sway T q st (31 ^^^ p)) (scl T q)) T 0 (fun _ => 0)
theorem sB_le {T : Nat} {q : Nat → tk_Q} {st : Nat → Int32} {p : Nat} : (sB T q st p).1 ≤ T := sV_le _ _ _ _
theorem x_search {N : Nat} {G : kg_G} {T : Nat} {q : Nat → tk_Q} {st : Nat → Int32} (hN : 100 < N) (hL : jLn G) (h : kpq G T q st) {aw v : Int32} {xs ys : List Int32} (hx : xs.length = 5) (hy : ys.length = 5) {p : Nat} (hp : p < 32) {fl : Int} (hf : -1 ≤ fl ∧ fl ≤ 5) : ∃ xs' ys', fX4_search N (ks G aw v xs ys) (nI p) (iI fl) = some (iI (svis (fl, fun _ => 0) (((sB T q st p).1 : Int), (sB T q st p).2)).1, ks G (nI (31 ^^^ p)) (iI (svis (fl, fun _ => 0) (((sB T q st p).1 : Int), (sB T q st p).2)).1) xs' ys') ∧ kxs xs' (svis (fl, fun _ => 0) (((sB T q st p).1 : Int), (sB T q st p).2)).2 T ∧ ys'.length = 5 := by
  have hT := h.2.1
  obtain ⟨w1, w2⟩ := kb_away p hp
  have h' : kpq (kg_i G 17 6 (nI (31 ^^^ p))) T q st := h
  have hc := x_choose hN h' rfl w2 T 0 (7 - (T + 1)) (by omega) (fun _ => 0) 0 (fl, fun _ => 0) (kmap (fun _ _ => 0) 5 xs) ys (Nat.le_refl 0) hf ⟨by rw [kmap_len]; exact hx, fun i hi => by rw [kmap_get _ _ 5 i (by omega), if_pos hi]; rfl, fun _ _ => rfl⟩ ⟨hy, fun i hi => by omega⟩ (fun _ _ => rfl)
  rw [show T + 1 + (7 - (T + 1)) = 7 by omega] at hc
  have es : sW (sop (sway T q st (31 ^^^ p)) (scl T q)) T 0 ((0 : Nat) : Int) (fun _ => 0) = (((sB T q st p).1 : Int), (sB T q st p).2) := by
    unfold sW sB
    refine Prod.ext ?_ rfl
    show ((0 : Nat) : Int) + _ = _
    rw [Int.natCast_zero, Int.zero_add]
  rw [es] at hc
  obtain ⟨xs', ys', c1, c2, c3⟩ := hc
  refine ⟨xs', ys', ?_, c2, c3.1⟩
  unfold fX4_search
  rw [w1, ks_i, x_fill hN (ks_len hL hx hy) (by decide) (by decide), Option.bind_some]
  have e18 : (ks G (nI (31 ^^^ p)) (iI fl) xs ys).2.1 18 = xs := rfl
  rw [e18]
  unfold ks
  rw [kf_18]
  have c1' : fX4_choose N 7 (kf (kg_i G 17 6 (nI (31 ^^^ p))) (iI fl) (kmap (fun _ _ => 0) (jLen 18) xs) ys) 0 0 = _ := c1
  rw [c1']
  rfl
/-- the row that a search finds -/
theorem sV_row (op : Nat → (Nat → Nat) → Nat → Bool) : ∀ (d t : Nat) (r : Nat → Nat), (∀ u, u < t ∨ t + d ≤ u → (sV op d t r).2 u = r u) ∧ ∀ u, t ≤ u → u < t + d → (sV op d t r).2 u = 0 ∨ ∃ i r', i < 31 ∧ (sV op d t r).2 u = i + 1 ∧ op u r' (i + 1) = true
  | 0, t, r => ⟨fun _ _ => rfl, fun u h1 h2 => by omega⟩
  | d + 1, t, r => by
    have ih := sV_row op d (t + 1)
    rw [sV]
    refine kfo_inv (fun _ (b : Nat × (Nat → Nat)) => (∀ u, u < t ∨ t + (d + 1) ≤ u → b.2 u = r u) ∧ ∀ u, t ≤ u → u < t + (d + 1) → b.2 u = 0 ∨ ∃ i r', i < 31 ∧ b.2 u = i + 1 ∧ op u r' (i + 1) = true) 31 _ ?_ ?_
    · refine ⟨fun u hu => ?_, fun u h1 h2 => ?_⟩
      · rw [(ih (su r t 0)).1 u (by omega)]
        unfold su
        rw [if_neg (by omega)]
      · by_cases e : u = t
        · left
          rw [(ih (su r t 0)).1 u (by omega)]
          unfold su
          rw [if_pos e]
        · exact (ih (su r t 0)).2 u (by omega) (by omega)
    · intro j a hj ha
      show (∀ u, u < t ∨ t + (d + 1) ≤ u → (if op t r (j + 1) then (if a.1 < (sV op d (t + 1) (su r t (j + 1))).1 + 1 then ((sV op d (t + 1) (su r t (j + 1))).1 + 1, (sV op d (t + 1) (su r t (j + 1))).2) else a) else a).2 u = r u) ∧ ∀ u, t ≤ u → u < t + (d + 1) → (if op t r (j + 1) then (if a.1 < (sV op d (t + 1) (su r t (j + 1))).1 + 1 then ((sV op d (t + 1) (su r t (j + 1))).1 + 1, (sV op d (t + 1) (su r t (j + 1))).2) else a) else a).2 u = 0 ∨ ∃ i r', i < 31 ∧ (if op t r (j + 1) then (if a.1 < (sV op d (t + 1) (su r t (j + 1))).1 + 1 then ((sV op d (t + 1) (su r t (j + 1))).1 + 1, (sV op d (t + 1) (su r t (j + 1))).2) else a) else a).2 u = i + 1 ∧ op u r' (i + 1) = true
      by_cases z : op t r (j + 1) = true
      · rw [if_pos z]
        by_cases y : a.1 < (sV op d (t + 1) (su r t (j + 1))).1 + 1
        · rw [if_pos y]
          refine ⟨fun u hu => ?_, fun u h1 h2 => ?_⟩
          · show (sV op d (t + 1) (su r t (j + 1))).2 u = r u
            rw [(ih (su r t (j + 1))).1 u (by omega)]
            unfold su
            rw [if_neg (by omega)]
          · by_cases e : u = t
            · right
              refine ⟨j, r, hj, ?_, by rw [e]; exact z⟩
              show (sV op d (t + 1) (su r t (j + 1))).2 u = j + 1
              rw [(ih (su r t (j + 1))).1 u (by omega)]
              unfold su
              rw [if_pos e]
            · exact (ih (su r t (j + 1))).2 u (by omega) (by omega)
        · rw [if_neg y]; exact ha
      · rw [if_neg z]; exact ha
theorem sB_row {T : Nat} {q : Nat → tk_Q} {st : Nat → Int32} {p : Nat} (hp : p < 32) (u : Nat) : ((sB T q st p).2 u = 0 ∨ (u < T ∧ (sB T q st p).2 u < 32 ∧ (sB T q st p).2 u &&& p = (sB T q st p).2 u ∧ jdone (q u) st ((sB T q st p).2 u) = true)) ∧ (T ≤ u → (sB T q st p).2 u = 0) := by
  have h := sV_row (sop (sway T q st (31 ^^^ p)) (scl T q)) T 0 (fun _ => 0)
  have h1 : T ≤ u → (sB T q st p).2 u = 0 := fun hu => h.1 u (by omega)
  refine ⟨?_, h1⟩
  by_cases hu : T ≤ u
  · exact Or.inl (h1 hu)
  · rcases h.2 u (by omega) (by omega) with e | ⟨i, r', hi, e, ho⟩
    · exact Or.inl e
    · have e' : (sB T q st p).2 u = i + 1 := e
      right
      rw [e']
      unfold sop sway at ho
      simp only [Bool.and_eq_true, decide_eq_true_eq] at ho
      refine ⟨by omega, by omega, ?_, ho.1.2.1⟩
      have := kb_away2 p hp (i + 1) (by omega)
      rw [decide_eq_true ho.1.2.2] at this
      exact of_decide_eq_true this.symm
