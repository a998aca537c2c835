/-! THE CLASS'S SEARCH: what it is prepared from, its helps -/
theorem jX_of {N : Nat} {G G1 : kg_G} {T np : Nat} {q : Nat → tk_Q} {D : jD} (h : jX N G T np q D) (hL : jLn G1) (e1 : ∀ j, G1.1 3 j = G.1 3 j) (e2 : ∀ a, 4 ≤ a → a ≤ 9 → G1.2.1 a = G.2.1 a) (e3 : G1.2.2.2 = G.2.2.2) : jX N G1 T np q D := by
  obtain ⟨h1, h2, h3, h4, h5, h6⟩ := h
  exact ⟨hL, h2, jB_of h3 e3, jTC_of h4 (fun j _ _ => e1 j) (fun a ha hb => e2 a (by omega) (by omega)), h5, h6⟩
theorem jcl_comm (q : Nat → tk_Q) (t u : Nat) : jcl q t u = jcl q u t := by
  unfold jcl
  rw [Int32.and_comm]
  congr 2
  exact decide_eq_decide.mpr ⟨fun h => h.symm, fun h => h.symm⟩
theorem kset_cut (f : Nat → Bool) {T : Nat} (hT : T ≤ 5) : kset f T = kset (fun u => decide (u < T) && f u) 5 := by
  have e := kset_ext (f := fun u => decide (u < T) && f u) hT (fun j h1 h2 => by
    have : ¬ j < T := by omega
    simp [this])
  rw [e]
  exact kset_congr T (fun j hj => by simp [hj])
/-- clashes and ways as the search sees them -/
def scl (T : Nat) (q : Nat → tk_Q) (u v : Nat) : Bool := decide (u < T) && (decide (v < T) && jcl q u v)
def sway (T : Nat) (q : Nat → tk_Q) (st : Nat → Int32) (aw : Nat) (t s : Nat) : Bool := decide (t < T) && (jdone (q t) st s && decide (s &&& aw = 0))
/-- a planner that is prepared -/
def kpq (G : kg_G) (T : Nat) (q : Nat → tk_Q) (st : Nat → Int32) : Prop := G.1 17 5 = nI T ∧ T ≤ 5 ∧ G.2.1 22 = kp_T ∧ (G.2.1 20).length = 5 ∧ (G.2.1 21).length = 5 ∧ ∀ t, t < T → (G.2.1 21).getD t 0 = nI (kset (jcl q t) T) ∧ ∀ s, s < 32 → ib ((G.2.1 20).getD t 0) s = (decide (1 ≤ s) && jdone (q t) st s)
abbrev kpp (G : kg_G) (cs ws : List Int32) : kg_G := kg_a (kg_a G 21 cs) 20 ws
theorem kpp_21 (G : kg_G) (cs ws cs2 : List Int32) : kg_a (kpp G cs ws) 21 cs2 = kpp G cs2 ws := by
  unfold kpp kg_a
  refine congrArg (fun z => (G.1, z, G.2.2)) ?_
  funext b
  show (if b = 21 then cs2 else if b = 20 then ws else if b = 21 then cs else G.2.1 b) = (if b = 20 then ws else if b = 21 then cs2 else G.2.1 b)
  by_cases h1 : b = 21
  · subst h1; rfl
  · rw [if_neg h1, if_neg h1, if_neg h1]
theorem kpp_20 (G : kg_G) (cs ws ws2 : List Int32) : kg_a (kpp G cs ws) 20 ws2 = kpp G cs ws2 := kg_aa _ _ _ _
theorem kpp_self (G : kg_G) : kpp G (G.2.1 21) (G.2.1 20) = G := by
  unfold kpp
  rw [kg_as]
  exact kg_as G 20
section PL
variable {N : Nat} {G : kg_G} {T np : Nat} {q : Nat → tk_Q} {D : jD}
theorem x_prep44 (h : jX N G T np q D) {cs ws : List Int32} (hc : cs.length = 5) (hw : ws.length = 5) {j : Nat} (hj : j < T) (h0 : ws.getD j 0 = 0) (k15 : kg_G → Nat → Int32 → Option kg_G) : ∃ w, (∀ s, s < 32 → ib w s = (decide (1 ≤ s) && jdone (q j) (kA G 4) s)) ∧ fX4_prepare_44 N k15 N (kpp G cs ws) G.2.2.2.1 (nI j) 1 = k15 (kpp G cs (ws.set j w)) G.2.2.2.1 (nI (j + 1)) := by
  have hN := h.2.2.2.2.2
  have h5 := h.2.1.1
  have hX : ∀ ws2 : List Int32, ws2.length = 5 → jX N (kpp G cs ws2) T np q D := fun ws2 hw2 => jX_of h (jLn_a (jLn_a h.1 hc) hw2) (fun _ => rfl) (fun a h1 h2 => by show (if a = 20 then ws2 else if a = 21 then cs else G.2.1 a) = _; rw [if_neg (by omega), if_neg (by omega)]) rfl
  obtain ⟨a', e1, ⟨_, w, g1, g2⟩⟩ := kl_go (fun n g i => fX4_prepare_44 N k15 n g G.2.2.2.1 (nI j) i) (fun m g => 1 ≤ m ∧ ∃ w, g = kpp G cs (ws.set j w) ∧ ∀ s, s < 32 → ib w s = (decide (1 ≤ s) && (decide (s < m) && jdone (q j) (kA G 4) s))) 32 (by
    intro n g m hm ⟨hm1, w, g1, g2⟩
    have hl : (ws.set j w).length = 5 := by rw [List.length_set, hw]
    have hXw := hX _ hl
    obtain ⟨t0, wz, x, hb, hta, hlz, hx⟩ := hXw.2.2.1
    have hbl : kg_bl (kg_Y (kpp G cs (ws.set j w))) G.2.2.2.1 = some (t0, nI np) := hb
    have hdb : fX0_isDoneBy N (kpp G cs (ws.set j w)) G.2.2.2.1 (nI j) (nI m) 4 = some (if jdone (q j) (kA G 4) m then 1 else 0) := x_isDoneBy hXw hj hm 4 (by decide) (h.1 4 (by decide)) (kA G 4) (fun p hp hb => rfl)
    have q1 : ¬ (32 : Int32) ≤ nI m := m_loop (m := 32) (by omega) hm
    have hg : (ws.set j w).getD j 0 = w := by rw [getD_set (by omega), if_pos rfl]
    by_cases z : jdone (q j) (kA G 4) m = true
    · refine ⟨kpp G cs (ws.set j (w ||| (1 <<< (nI m &&& 31)))), ?_, by omega, _, rfl, ?_⟩
      · show fX4_prepare_44 N k15 (n + 1) g G.2.2.2.1 (nI j) (nI m) = fX4_prepare_44 N k15 n _ G.2.2.2.1 (nI j) (nI (m + 1))
        rw [g1, fX4_prepare_44, if_neg q1, hbl, Option.bind_some, hdb, Option.bind_some, if_pos z, if_neg (by decide), kv_ga hl (by show j < 5; omega) (by decide), Option.bind_some, kv_pa hl (by show j < 5; omega) (by decide), Option.bind_some, kpp_20, hg, kn_succ, List.set_set]
      · intro s hs
        rw [ib_or, g2 s hs, ib_one m hm s hs]
        by_cases e : s = m
        · subst e
          have : s < s + 1 := by omega
          simp [z, hm1, this]
        · by_cases e2 : s < m
          · have : s < m + 1 := by omega
            simp [e, e2, this]
          · have : ¬ s < m + 1 := by omega
            simp [e, e2, this]
    · refine ⟨g, ?_, by omega, w, g1, ?_⟩
      · show fX4_prepare_44 N k15 (n + 1) g G.2.2.2.1 (nI j) (nI m) = fX4_prepare_44 N k15 n g G.2.2.2.1 (nI j) (nI (m + 1))
        rw [g1, fX4_prepare_44, if_neg q1, hbl, Option.bind_some, hdb, Option.bind_some, if_neg z, if_pos rfl, kn_succ]
      · intro s hs
        rw [g2 s hs]
        by_cases e : s = m
        · subst e
          simp [z]
        · by_cases e2 : s < m
          · have : s < m + 1 := by omega
            simp [e2, this]
          · have : ¬ s < m + 1 := by omega
            simp [e2, this]) 31 1 N (kpp G cs ws) (by omega) (by omega) ⟨Nat.le_refl 1, 0, by
      congr 1
      refine (getD_ext (by rw [List.length_set]) (fun i hi => ?_))
      rw [getD_set (by omega)]
      split
      · rename_i e; rw [e, h0]
      · rfl, fun s hs => by
        rw [ib_zero]
        by_cases e : 1 ≤ s
        · have : ¬ s < 1 := by omega
          simp [this]
        · simp [e]⟩
  refine ⟨w, fun s hs => ?_, ?_⟩
  · rw [g2 s hs]; simp [hs]
  · refine Eq.trans e1 ?_
    show fX4_prepare_44 N k15 (N - 31) a' G.2.2.2.1 (nI j) (nI 32) = _
    obtain ⟨n', hn'⟩ : ∃ n', N - 31 = n' + 1 := ⟨N - 32, by omega⟩
    rw [hn', g1, fX4_prepare_44, if_pos (by decide), kn_succ]
end PL
