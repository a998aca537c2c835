/-! THE REFERENCE'S SEARCH: isFree, the walk through the rows -/
theorem m_copyN {N : Nat} {G : kg_G} (hN : 100 < N) {a0 a1 : Nat} (hL : jLn G) (h0 : a0 ∈ kg_arrs) (h1 : a1 ∈ kg_arrs) (hne : a0 ≠ a1) (hl : jLen a0 = jLen a1) (hs : jLen a1 < 90) : fX11_copy N G a0 a1 = some (kg_a G a1 (G.2.1 a0)) := by
  have l0 := hL a0 h0
  have l1 := hL a1 h1
  have e : kmap (fun j _ => kA G a0 j) (jLen a1) (G.2.1 a1) = G.2.1 a0 := by
    refine getD_ext (by rw [kmap_len]; omega) (fun i hi => ?_)
    rw [kmap_len] at hi
    rw [kmap_get _ _ _ i (by omega), if_pos (by omega)]; rfl
  refine Eq.trans (kl_map (fun n b g i => fX11_copy_2 N n g a0 a1 i) a1 G (fun j _ => kA G a0 j) (fun _ _ b => b) (jLen a1) (fun _ g => some g) h1 hL (Nat.le_refl _) (n := N) (c := 0) (by omega) ?_ ?_) (by rw [e])
  · intro n b xs hx
    show fX11_copy_2 N (n + 1) (kg_a G a1 xs) a0 a1 (nI (jLen a1)) = _
    have g : (kg_a G a1 xs).2.1 a0 = G.2.1 a0 := by
      show (if a0 = a1 then xs else G.2.1 a0) = _
      rw [if_neg hne]
    rw [fX11_copy_2]
    unfold kg_le
    rw [if_pos h0, g, Option.bind_some, if_pos (by rw [l0, hl, kn_le (by omega) (by omega)]; omega)]
  · intro n b xs j hj hx hg
    show fX11_copy_2 N (n + 1) (kg_a G a1 xs) a0 a1 (nI j) = fX11_copy_2 N n (kg_a G a1 (xs.set j (kA G a0 j))) a0 a1 (nI (j + 1))
    have g : (kg_a G a1 xs).2.1 a0 = G.2.1 a0 := by
      show (if a0 = a1 then xs else G.2.1 a0) = _
      rw [if_neg hne]
    rw [fX11_copy_2]
    unfold kg_le kg_ld kg_sd
    rw [if_pos h0, g, Option.bind_some, if_neg (by rw [l0, hl]; exact m_loop (by omega) hj), if_pos h0, kA_g hL h0 (by omega), Option.bind_some, if_pos h1, kv_pa hx hj (by omega)]
    simp only [Option.map_some, Option.bind_some, kg_aa, kn_succ]
/-- the reference while it searches: row, best row, places -/
def km (G : kg_G) (row best pl : List Int32) : kg_G := kg_a (kg_a (kg_a G 35 row) 36 best) 37 pl
theorem km_35 (G : kg_G) (row best pl row2 : List Int32) : kg_a (km G row best pl) 35 row2 = km G row2 best pl := by
  unfold km kg_a
  refine congrArg (fun z => (G.1, z, G.2.2)) ?_
  funext b
  show (if b = 35 then row2 else if b = 37 then pl else if b = 36 then best else if b = 35 then row else G.2.1 b) = (if b = 37 then pl else if b = 36 then best else if b = 35 then row2 else G.2.1 b)
  by_cases h1 : b = 35
  · subst h1; rfl
  · rw [if_neg h1, if_neg h1, if_neg h1]
theorem km_36 (G : kg_G) (row best pl best2 : List Int32) : kg_a (km G row best pl) 36 best2 = km G row best2 pl := by
  unfold km kg_a
  refine congrArg (fun z => (G.1, z, G.2.2)) ?_
  funext b
  show (if b = 36 then best2 else if b = 37 then pl else if b = 36 then best else if b = 35 then row else G.2.1 b) = (if b = 37 then pl else if b = 36 then best2 else if b = 35 then row else G.2.1 b)
  by_cases h1 : b = 36
  · subst h1; rfl
  · rw [if_neg h1, if_neg h1, if_neg h1]
theorem km_37 (G : kg_G) (row best pl pl2 : List Int32) : kg_a (km G row best pl) 37 pl2 = km G row best pl2 := kg_aa _ _ _ _
theorem km_self (G : kg_G) : km G (G.2.1 35) (G.2.1 36) (G.2.1 37) = G := by
  unfold km
  rw [kg_as]
  have e1 : kg_a G 36 (G.2.1 36) = G := kg_as G 36
  rw [e1]
  exact kg_as G 37
/-- whether a set is free of those ahead -/
def sfr (T : Nat) (q : Nat → tk_Q) (t : Nat) (r : Nat → Nat) (s : Nat) : Bool := kall (fun u => !(scl T q t u) || decide (s &&& r u = 0)) t
theorem sfr_0 (T : Nat) (q : Nat → tk_Q) (t : Nat) (r : Nat → Nat) : sfr T q t r 0 = true := by
  unfold sfr
  rw [kall_iff]
  intro j hj
  simp
theorem kb_and2 : ∀ m, m < 32 → ∀ f, f < 32 → (nI m &&& nI f = 0 ↔ f &&& m = 0) := by decide +kernel
section ML
variable {N : Nat} {G : kg_G} {T np : Nat} {q : Nat → tk_Q} {D : jD}
theorem km_L (h : jLn G) {row best pl : List Int32} (h1 : row.length = 5) (h2 : best.length = 5) (h3 : pl.length = 5) : jLn (km G row best pl) := jLn_a (jLn_a (jLn_a h h1) h2) h3
theorem km_M (h : jM N G T np q D) {row best pl : List Int32} (h1 : row.length = 5) (h2 : best.length = 5) (h3 : pl.length = 5) : jM N (km G row best pl) T np q D := jM_of h (km_L h.1 h1 h2 h3) (fun _ => rfl) (by simp [km, kg_a])
theorem m_isFree (h : jM N G T np q D) {row best pl : List Int32} (h1 : row.length = 5) (h2 : best.length = 5) (h3 : pl.length = 5) {r : Nat → Nat} {t s : Nat} (hr : ∀ i, i < t → row.getD i 0 = nI (r i) ∧ r i < 32) (ht : t < 5) (hs : s < 32) (hst : s = 0 ∨ t < T) : fX11_isFree N (km G row best pl) (nI t) (nI s) = some (if sfr T q t r s then 1 else 0) := by
  have hN := h.2.2.2.2.2
  have hM := km_M h h1 h2 h3
  have g35 : (km G row best pl).2.1 35 = row := rfl
  obtain ⟨n', a', e1, e2⟩ := kl_inv (fun n a i => fX11_isFree_5 N (km G row best pl) n (nI t) (nI s) a i) (fun j a => a = if kall (fun u => !(scl T q t u) || decide (s &&& r u = 0)) j then 1 else 0) t (n := N) (a := 1) (by omega) rfl (by
    intro n a j hj e
    refine ⟨_, ?_, rfl⟩
    show fX11_isFree_5 N (km G row best pl) (n + 1) (nI t) (nI s) a (nI j) = fX11_isFree_5 N (km G row best pl) n (nI t) (nI s) (if kall (fun u => !(scl T q t u) || decide (s &&& r u = 0)) (j + 1) then 1 else 0) (nI (j + 1))
    rw [fX11_isFree_5, if_neg (m_loop (by omega) hj), kn_succ, e, kall]
    by_cases z : kall (fun u => !(scl T q t u) || decide (s &&& r u = 0)) j = true
    · rw [if_pos z, if_neg (by decide), g35, kn_g (by omega) (by omega), Option.bind_some, (hr j hj).1, z, Bool.true_and]
      by_cases y : s &&& r j = 0
      · rw [if_pos ((kb_and2 _ (hr j hj).2 s hs).mpr y), decide_eq_true y, Bool.or_true, if_pos rfl]
      · have htT : t < T := by
          rcases hst with w | w
          · rw [w, Nat.zero_and] at y; exact absurd rfl y
          · exact w
        have ec : scl T q t j = jcl q t j := by
          unfold scl
          rw [decide_eq_true htT, decide_eq_true (show j < T by omega)]; rfl
        rw [if_neg (fun w => y ((kb_and2 _ (hr j hj).2 s hs).mp w)), m_clash hM htT (by omega), Option.bind_some, decide_eq_false y, Bool.or_false, ec]
        by_cases x : jcl q t j = true
        · simp [x]
        · simp [x]
    · rw [if_neg z, if_pos rfl]
      have z' : kall (fun u => !(scl T q t u) || decide (s &&& r u = 0)) j = false := by
        cases w : kall (fun u => !(scl T q t u) || decide (s &&& r u = 0)) j
        · rfl
        · exact absurd w z
      rw [z', Bool.false_and, if_neg (by decide)])
  unfold fX11_isFree sfr
  refine Eq.trans e1 ?_
  show fX11_isFree_5 N (km G row best pl) (n' + 1) (nI t) (nI s) a' (nI t) = _
  rw [fX11_isFree_5, if_pos (Int32.le_refl _), e2]
  split <;> rfl
end ML
/-- the most steps of the walk below a level -/
def kB : Nat → Nat
  | 0 => 1
  | d + 1 => 16 * (1 + kB d) + 1
def kbe (best : List Int32) (f : Nat → Nat) : Prop := best.length = 5 ∧ ∀ i, i < 5 → best.getD i 0 = nI (f i)
/-- one choice of a level -/
def sf (T : Nat) (q : Nat → tk_Q) (op : Nat → (Nat → Nat) → Nat → Bool) (d t cnt : Nat) (r : Nat → Nat) (b : Int × (Nat → Nat)) (s : Nat) : Int × (Nat → Nat) := if sfr T q t r s then svis b (sW op d (t + 1) ((cnt + (if s = 0 then 0 else 1) : Nat) : Int) (su r t s)) else b
theorem sf_stop {T : Nat} {q : Nat → tk_Q} {op : Nat → (Nat → Nat) → Nat → Bool} {d t cnt : Nat} {r : Nat → Nat} {b : Int × (Nat → Nat)} (hb : (cnt : Int) + d + 1 ≤ b.1) : ∀ l : List Nat, l.foldl (sf T q op d t cnt r) b = b
  | [] => rfl
  | s :: l => by
    have e : sf T q op d t cnt r b s = b := by
      unfold sf
      split
      · unfold svis
        rw [if_neg]
        have := (sV_fst_le (op := op) (d := d) (t := t + 1) (cnt := cnt + (if s = 0 then 0 else 1)) (r := su r t s)).1
        have h2 : cnt + (if s = 0 then 0 else 1) ≤ cnt + 1 := by split <;> omega
        omega
      · rfl
    rw [List.foldl_cons, e]
    exact sf_stop hb l
theorem sf_all {T : Nat} {q : Nat → tk_Q} {way : Nat → Nat → Bool} {d t cnt : Nat} {r : Nat → Nat} {b : Int × (Nat → Nat)} : (kc (way t) 31).foldl (sf T q (sop way (scl T q)) d t cnt r) b = svis b (sW (sop way (scl T q)) (d + 1) t cnt r) := by
  rw [kc_fold, sW_succ]
  have e0 : sf T q (sop way (scl T q)) d t cnt r b 0 = svis b (sW (sop way (scl T q)) d (t + 1) cnt (su r t 0)) := by
    unfold sf
    rw [sfr_0, if_pos rfl]; rfl
  rw [e0]
  refine kfo_congr 31 _ (fun i a hi => ?_)
  show (if way t (i + 1) = true then sf T q (sop way (scl T q)) d t cnt r a (i + 1) else a) = (if sop way (scl T q) t r (i + 1) = true then svis a (sW (sop way (scl T q)) d (t + 1) ((cnt : Int) + 1) (su r t (i + 1))) else a)
  have eo : sop way (scl T q) t r (i + 1) = (way t (i + 1) && sfr T q t r (i + 1)) := rfl
  rw [eo]
  unfold sf
  cases way t (i + 1)
  · rfl
  · cases sfr T q t r (i + 1)
    · rfl
    · rfl
