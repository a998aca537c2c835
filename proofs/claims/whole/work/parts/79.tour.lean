/-! TOURS: what a tour is -/
def tseed (s : Int32) : Int32 := ((1103515245 * s.toInt64) + 12345 &&& 2147483647).toInt32
def tstr (s : Int32) : Int32 := (s / 65536) - (s / 65536) / 10 * 10
/-- who of the line a trick takes -/
def tset (ok : Nat → Bool) (c : Nat) : Nat → Nat
  | 0 => 0
  | k + 1 => if decide (bc (tset ok c k) < c) && ok k then tset ok c k + 2 ^ k else tset ok c k
theorem tset_kset (ok : Nat → Bool) (c : Nat) : ∀ n, tset ok c n = kset (fun k => decide (bc (tset ok c k) < c) && ok k) n
  | 0 => rfl
  | n + 1 => by
    rw [tset, kset, ← tset_kset ok c n]
    split
    · rfl
    · rfl
theorem tset_lt (ok : Nat → Bool) (c n : Nat) : tset ok c n < 2 ^ n := by rw [tset_kset]; exact kset_lt _ _
theorem tset_32 (ok : Nat → Bool) (c : Nat) {n : Nat} (h : n ≤ 5) : tset ok c n < 32 := by rw [tset_kset]; exact kset_lt32 _ h
theorem tset_bit (ok : Nat → Bool) (c : Nat) {n k : Nat} (hn : n ≤ 5) (hk : k < 5) : (tset ok c n).testBit k = (decide (k < n) && (decide (bc (tset ok c k) < c) && ok k)) := by
  rw [tset_kset, kset_cut _ hn, kset_bit _ hk]
theorem bc_add : ∀ k, k < 5 → ∀ m, m < 2 ^ k → bc (m + 2 ^ k) = bc m + 1 := by decide +kernel
theorem bc_0 : bc 0 = 0 := by decide +kernel
theorem tset_bc (ok : Nat → Bool) (c : Nat) : ∀ n, n ≤ 5 → bc (tset ok c n) ≤ c
  | 0, _ => by rw [show tset ok c 0 = 0 from rfl, bc_0]; omega
  | n + 1, h => by
    rw [tset]
    have := tset_bc ok c n (by omega)
    by_cases z : (decide (bc (tset ok c n) < c) && ok n) = true
    · rw [if_pos z, bc_add n (by omega) _ (tset_lt ok c n)]
      simp only [Bool.and_eq_true, decide_eq_true_eq] at z
      omega
    · rw [if_neg z]; exact this
theorem tset_full (ok : Nat → Bool) (c : Nat) {i : Nat} (h : bc (tset ok c i) = c) : ∀ d, tset ok c (i + d) = tset ok c i
  | 0 => rfl
  | d + 1 => by
    rw [← Nat.add_assoc, tset, tset_full ok c h d, decide_eq_false (by omega), Bool.false_and, if_neg (by decide)]
theorem tset_congr {ok ok' : Nat → Bool} (c : Nat) : ∀ n, (∀ k, k < n → ok k = ok' k) → tset ok c n = tset ok' c n
  | 0, _ => rfl
  | n + 1, h => by rw [tset, tset, tset_congr c n (fun k hk => h k (by omega)), h n (by omega)]
/-- the crew as a number -/
def tcr (q : tk_Q) : Nat := if q.1 = 3 then 2 else if q.1 = 5 then 2 else 1
theorem tcr_eq (q : tk_Q) : tk_crew q = nI (tcr q) := by
  unfold tk_crew tcr
  split
  · rfl
  · split <;> rfl
theorem tcr_12 (q : tk_Q) : tcr q = 1 ∨ tcr q = 2 := by
  unfold tcr
  split
  · exact Or.inr rfl
  · split
    · exact Or.inr rfl
    · exact Or.inl rfl
/-- whether one of the line may be taken -/
def tok (T : Nat) (q : Nat → tk_Q) (L : Nat → Int32) (r : Nat → Nat) (t k : Nat) : Bool := kall (fun u => !(scl T q t u && (r u).testBit k)) t && jsu (q t) (L k)
abbrev tP : Type := (Nat → Nat) × Int32 × Nat
/-- one trick of a night: who is taken, how many are done, who is in those -/
def tg (T : Nat) (q : Nat → tk_Q) (L : Nat → Int32) (n : Nat) (t : Nat) (p : tP) : tP := (su p.1 t (tset (tok T q L p.1 t) (tcr (q t)) n), if jdone (q t) L (tset (tok T q L p.1 t) (tcr (q t)) n) then p.2.1 + 1 else p.2.1, if jdone (q t) L (tset (tok T q L p.1 t) (tcr (q t)) n) then p.2.2 ||| tset (tok T q L p.1 t) (tcr (q t)) n else p.2.2)
def tplay (T : Nat) (q : Nat → tk_Q) (L : Nat → Int32) (n : Nat) (d : Int32) (m : Nat) : tP := kfo (tg T q L n) m ((fun _ => 0), d, 0)
theorem tplay_ok {T : Nat} {q : Nat → tk_Q} {L : Nat → Int32} {n : Nat} {d : Int32} (hn : n ≤ 5) (m : Nat) : (∀ u, (tplay T q L n d m).1 u < 32) ∧ (tplay T q L n d m).2.2 < 32 := by
  refine kfo_inv (fun _ (p : tP) => (∀ u, p.1 u < 32) ∧ p.2.2 < 32) m _ ⟨fun _ => by show (0 : Nat) < 32; omega, by show (0 : Nat) < 32; omega⟩ (fun t p _ hp => ?_)
  have h32 := tset_32 (tok T q L p.1 t) (tcr (q t)) hn
  refine ⟨fun u => ?_, ?_⟩
  · show su p.1 t _ u < 32
    unfold su
    split
    · exact h32
    · exact hp.1 u
  · show (if jdone (q t) L (tset (tok T q L p.1 t) (tcr (q t)) n) then p.2.2 ||| tset (tok T q L p.1 t) (tcr (q t)) n else p.2.2) < 32
    split
    · exact kt_or2 _ hp.2 _ h32
    · exact hp.2
/-- a tour's state: the line, how long, the seed, how many done, gone -/
abbrev tS : Type := (Nat → Int32) × Nat × Int32 × Int32 × Int32
def tcall (s : tS) : tS := (if s.2.1 < 5 then (fun k => if k = s.2.1 then tstr (tseed s.2.2.1) else s.1 k) else s.1, if s.2.1 < 5 then s.2.1 + 1 else s.2.1, tseed s.2.2.1, s.2.2.2)
def tsend (s : tS) (d : Nat) : tS := if kffg (fun k => d.testBit k) s.2.1 0 < s.2.1 then (fun k => if k < kffg (fun k => d.testBit k) s.2.1 0 then s.1 k else s.1 (k + 1), s.2.1 - 1, s.2.2.1, s.2.2.2.1, s.2.2.2.2 + 1) else s
def tnight (T : Nat) (q : Nat → tk_Q) (s : tS) : tS := tsend ((tcall s).1, (tcall s).2.1, (tcall s).2.2.1, (tplay T q (tcall s).1 (tcall s).2.1 s.2.2.2.1 T).2.1, s.2.2.2.2) (tplay T q (tcall s).1 (tcall s).2.1 s.2.2.2.1 T).2.2
theorem tcall_5 {s : tS} (h : s.2.1 ≤ 5) : (tcall s).2.1 ≤ 5 := by
  show (if s.2.1 < 5 then s.2.1 + 1 else s.2.1) ≤ 5
  split <;> omega
theorem tsend_5 {s : tS} {d : Nat} (h : s.2.1 ≤ 5) : (tsend s d).2.1 ≤ 5 := by
  unfold tsend
  split
  · show s.2.1 - 1 ≤ 5
    omega
  · exact h
theorem tnight_5 {T : Nat} {q : Nat → tk_Q} {s : tS} (h : s.2.1 ≤ 5) : (tnight T q s).2.1 ≤ 5 := tsend_5 (tcall_5 h)
def ttour (T : Nat) (q : Nat → tk_Q) (seed : Int32) (m : Nat) : tS := kfo (fun _ s => tnight T q s) m ((fun _ => 0), 0, seed, 0, 0)
theorem ttour_5 {T : Nat} {q : Nat → tk_Q} {seed : Int32} (m : Nat) : (ttour T q seed m).2.1 ≤ 5 := kfo_inv (fun _ (s : tS) => s.2.1 ≤ 5) m _ (by show (0 : Nat) ≤ 5; omega) (fun _ s _ h => tnight_5 h)
/-! the class's tour -/
def tfr (G G2 : kg_G) : Prop := jLn G2 ∧ (∀ a j, a ≠ 23 → G2.1 a j = G.1 a j) ∧ G2.2.2 = G.2.2 ∧ ∀ a, a ≠ 24 → a ≠ 25 → G2.2.1 a = G.2.1 a
theorem tfr_refl {G : kg_G} (h : jLn G) : tfr G G := ⟨h, fun _ _ _ => rfl, rfl, fun _ _ _ => rfl⟩
theorem tfr_i {G G2 : kg_G} (h : tfr G G2) (k : Nat) (v : Int32) : tfr G (kg_i G2 23 k v) := by
  refine ⟨h.1, fun a j ha => ?_, h.2.2.1, h.2.2.2⟩
  show (if a = 23 then _ else G2.1 a j) = _
  rw [if_neg ha]; exact h.2.1 a j ha
theorem tfr_a {G G2 : kg_G} (h : tfr G G2) {b : Nat} {xs : List Int32} (hb : b = 24 ∨ b = 25) (hx : xs.length = 5) : tfr G (kg_a G2 b xs) := by
  refine ⟨jLn_a h.1 (by rcases hb with e | e <;> rw [e] <;> exact hx), h.2.1, h.2.2.1, fun a h1 h2 => ?_⟩
  show (if a = b then xs else G2.2.1 a) = _
  rw [if_neg (by omega)]; exact h.2.2.2 a h1 h2
theorem tfr_X {N : Nat} {G G2 : kg_G} {T np : Nat} {q : Nat → tk_Q} {D : jD} (h : jX N G T np q D) (hf : tfr G G2) : jX N G2 T np q D := jX_of h hf.1 (fun j => hf.2.1 3 j (by decide)) (fun a h1 h2 => hf.2.2.2 a (by omega) (by omega)) (congrArg (fun z => z.2) hf.2.2.1)
/-- the class holds a tour's state -/
def tX (G : kg_G) (s : tS) : Prop := s.2.1 ≤ 5 ∧ G.1 23 2 = nI s.2.1 ∧ G.1 23 5 = s.2.2.1 ∧ G.1 23 3 = s.2.2.2.1 ∧ G.1 23 4 = s.2.2.2.2 ∧ ∀ k, k < s.2.1 → kA G 24 k = s.1 k
section TX
variable {N : Nat} {G G0 : kg_G} {T np : Nat} {q : Nat → tk_Q} {D : jD}
theorem x_call (hf : tfr G0 G) {s : tS} (h : tX G s) : ∃ G1, fX7_callUp (fX7_drawStrong G).2 (fX7_drawStrong G).1 = some G1 ∧ tfr G0 G1 ∧ tX G1 (tcall s) := by
  obtain ⟨h1, h2, h3, h4, h5, h6⟩ := h
  have e1 : (fX7_drawStrong G).1 = tstr (tseed s.2.2.1) := by
    unfold fX7_drawStrong
    rw [h3]; rfl
  have e2 : (fX7_drawStrong G).2 = kg_i G 23 5 (tseed s.2.2.1) := by
    unfold fX7_drawStrong
    rw [h3]; rfl
  rw [e1, e2]
  unfold fX7_callUp
  have g2 : (kg_i G 23 5 (tseed s.2.2.1)).1 23 2 = nI s.2.1 := h2
  have g24 : (kg_i G 23 5 (tseed s.2.2.1)).2.1 24 = G.2.1 24 := rfl
  have l24 : (G.2.1 24).length = 5 := hf.1 24 (by decide)
  have ele : ((5 : Int32) ≤ nI s.2.1) = (5 ≤ s.2.1) := kn_le (a := 5) (b := s.2.1) (by omega) (by omega)
  rw [g2]
  by_cases z : s.2.1 < 5
  · rw [if_neg (by rw [ele]; omega), g24, kn_p (by omega) (by omega), Option.bind_some, kn_succ]
    refine ⟨_, rfl, tfr_i (tfr_a (tfr_i hf 5 _) (Or.inl rfl) (by rw [List.length_set, l24])) 2 _, tcall_5 h1, ?_, rfl, h4, h5, fun k hk => ?_⟩
    · show nI (s.2.1 + 1) = nI (if s.2.1 < 5 then s.2.1 + 1 else s.2.1)
      rw [if_pos z]
    · have hk' : k < s.2.1 + 1 := by
        have : k < (if s.2.1 < 5 then s.2.1 + 1 else s.2.1) := hk
        rw [if_pos z] at this; exact this
      show ((G.2.1 24).set s.2.1 (tstr (tseed s.2.2.1))).getD k 0 = (if s.2.1 < 5 then (fun k => if k = s.2.1 then tstr (tseed s.2.2.1) else s.1 k) else s.1) k
      rw [if_pos z, getD_set (by omega)]
      by_cases e : k = s.2.1
      · rw [if_pos e, if_pos e]
      · rw [if_neg e, if_neg e]; exact h6 k (by omega)
  · rw [if_pos (by rw [ele]; omega)]
    refine ⟨_, rfl, tfr_i hf 5 _, tcall_5 h1, ?_, rfl, h4, h5, fun k hk => ?_⟩
    · show G.1 23 2 = nI (if s.2.1 < 5 then s.2.1 + 1 else s.2.1)
      rw [if_neg z]; exact h2
    · have hk' : k < s.2.1 := by
        have : k < (if s.2.1 < 5 then s.2.1 + 1 else s.2.1) := hk
        rw [if_neg z] at this; exact this
      show kA G 24 k = (if s.2.1 < 5 then (fun k => if k = s.2.1 then tstr (tseed s.2.2.1) else s.1 k) else s.1) k
      rw [if_neg z]; exact h6 k hk'
theorem x_busyFor (hN : 100 < N) (hT : T ≤ 5) (hL : (G.2.1 25).length = 5) {r : Nat → Nat} {t : Nat} (ht : t < T) (hr : ∀ u, u < t → kA G 25 u = nI (r u) ∧ r u < 32) : fX7_busyFor N G (nI (kset (jcl q t) T)) (nI t) = some (nI (kbz (scl T q t) r 0 t)) := by
  have hk : kset (jcl q t) T < 32 := kset_lt32 _ hT
  obtain ⟨n', a', e1, e2⟩ := kl_inv (fun n a i => fX7_busyFor_5 N G n (nI (kset (jcl q t) T)) (nI t) a i) (fun j a => a = nI (kbz (scl T q t) r 0 j)) t (n := N) (a := 0) (by omega) rfl (by
    intro n a j hj e
    refine ⟨_, ?_, rfl⟩
    show fX7_busyFor_5 N G (n + 1) (nI (kset (jcl q t) T)) (nI t) a (nI j) = fX7_busyFor_5 N G n (nI (kset (jcl q t) T)) (nI t) (nI (kbz (scl T q t) r 0 (j + 1))) (nI (j + 1))
    have hbit : (kset (jcl q t) T).testBit j = scl T q t j := by
      rw [kset_cut _ hT, kset_bit _ (by omega)]
      unfold scl
      simp [ht]
    have hg : (G.2.1 25).getD j 0 = nI (r j) := (hr j hj).1
    rw [fX7_busyFor_5, if_neg (m_loop (by omega) hj), kb_has _ hk j (by omega), hbit, e, kbz, kn_g (by omega) (by omega), Option.bind_some, hg, kn_succ, nI_or]
    by_cases z : scl T q t j = true
    · simp [z]
    · simp [z])
  refine Eq.trans e1 ?_
  show fX7_busyFor_5 N G (n' + 1) (nI (kset (jcl q t) T)) (nI t) a' (nI t) = _
  rw [fX7_busyFor_5, if_pos (Int32.le_refl _), e2]
theorem kbz_bit (cl : Nat → Bool) (r : Nat → Nat) (k : Nat) : ∀ c, (kbz cl r 0 c).testBit k = !(kall (fun u => !(cl u && (r u).testBit k)) c)
  | 0 => by
    show (0 : Nat).testBit k = _
    simp [kall]
  | c + 1 => by
    rw [kbz, kall]
    cases h : cl c
    · simp [kbz_bit cl r k c]
    · simp only [if_true, Nat.testBit_or, kbz_bit cl r k c, Bool.true_and, Bool.not_and, Bool.not_not]
theorem x_take (hN : 100 < N) {Q : tk_Q} {x : Nat} (hx : kg_tr (kg_Y G) x = some Q) (hL : (G.2.1 24).length = 5) {L : Nat → Int32} {n b : Nat} (hn : n ≤ 5) (hb : b < 32) (h2 : G.1 23 2 = nI n) (h6 : ∀ k, k < n → kA G 24 k = L k) {ok : Nat → Bool} (hok : ∀ k, k < n → ok k = (!(b.testBit k) && jsu Q (L k))) : fX7_take N G x (nI b) = some (nI (tset ok (tcr Q) n)) := by
  have key : ∀ (d i m : Nat), i + d = n → d < m → fX7_take_11 N G m x (nI b) (nI (tset ok (tcr Q) i)) (nI (tcr Q - bc (tset ok (tcr Q) i))) (nI i) = some (nI (tset ok (tcr Q) n)) := by
    intro d
    induction d with
    | zero =>
      intro i m hi hm
      obtain ⟨m, rfl⟩ : ∃ m', m = m' + 1 := ⟨m - 1, by omega⟩
      have : i = n := by omega
      subst this
      rw [fX7_take_11, h2, if_pos (Int32.le_refl _)]
    | succ d ih =>
      intro i m hi hm
      obtain ⟨m, rfl⟩ : ∃ m', m = m' + 1 := ⟨m - 1, by omega⟩
      have hbc := tset_bc ok (tcr Q) i (by omega)
      have hc2 : tcr Q ≤ 2 := by rcases tcr_12 Q with e | e <;> omega
      have e0 : (nI (tcr Q - bc (tset ok (tcr Q) i)) ≤ 0) = (tcr Q - bc (tset ok (tcr Q) i) = 0) := by
        have := kn_le (a := tcr Q - bc (tset ok (tcr Q) i)) (b := 0) (by omega) (by omega)
        exact this.trans (propext (by omega))
      rw [fX7_take_11, h2, if_neg (m_loop (by omega) (by omega))]
      by_cases z : tcr Q - bc (tset ok (tcr Q) i) = 0
      · rw [if_pos (by rw [e0]; exact z)]
        have := tset_full ok (tcr Q) (i := i) (by omega) (d + 1)
        rw [hi] at this
        rw [this]
      · have hg : (G.2.1 24).getD i 0 = L i := h6 i (by omega)
        have ok1 := hok i (by omega)
        have et : tset ok (tcr Q) (i + 1) = if ok i then tset ok (tcr Q) i + 2 ^ i else tset ok (tcr Q) i := by
          rw [tset, decide_eq_true (by omega), Bool.true_and]
        have ih1 := ih (i + 1) m (by omega) (by omega)
        rw [et] at ih1
        rw [if_neg (by rw [e0]; exact z), kb_has b hb i (by omega), kn_g (by omega) (by omega), Option.bind_some, hx, Option.bind_some, hg, jsu_if, kn_succ]
        by_cases y : ok i = true
        · rw [if_pos y, bc_add i (by omega) _ (tset_lt ok (tcr Q) i)] at ih1
          rw [y] at ok1
          have y1 : b.testBit i = false := by
            cases w : b.testBit i
            · rfl
            · rw [w] at ok1; simp at ok1
          have y2 : jsu Q (L i) = true := by
            cases w : jsu Q (L i)
            · rw [w] at ok1; simp at ok1
            · rfl
          rw [y1, y2, if_neg (show ¬ (false = true) by decide), if_pos rfl, if_pos rfl, if_neg (by decide), kset_or1 i (by omega) _ (tset_lt ok (tcr Q) i)]
          have ew : nI (tcr Q - bc (tset ok (tcr Q) i)) + (-1) = nI (tcr Q - (bc (tset ok (tcr Q) i) + 1)) := by
            have := kb_pred (tcr Q - (bc (tset ok (tcr Q) i) + 1)) (by omega)
            rw [show tcr Q - (bc (tset ok (tcr Q) i) + 1) + 1 = tcr Q - bc (tset ok (tcr Q) i) by omega] at this
            exact this
          rw [ew]; exact ih1
        · rw [if_neg y] at ih1
          by_cases y1 : b.testBit i = true
          · rw [if_pos y1, if_neg (by decide)]; exact ih1
          · have y1' : b.testBit i = false := by simpa using y1
            have y2 : jsu Q (L i) = false := by
              cases w : jsu Q (L i)
              · rfl
              · rw [y1', w] at ok1
                exact absurd ok1 y
            rw [y1', y2, if_neg (show ¬ (false = true) by decide), if_pos rfl, if_pos (by decide)]; exact ih1
  unfold fX7_take
  rw [hx, Option.bind_some, tcr_eq]
  have k0 := key n 0 N (by omega) (by omega)
  rw [show tset ok (tcr Q) 0 = 0 from rfl, bc_0, Nat.sub_zero] at k0
  exact k0
end TX
