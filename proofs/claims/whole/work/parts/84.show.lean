/-! SHOW: the page that is a show; its tricks -/
def cci (c : Nat) : Nat := if c = 112 then 3 else if c = 115 then 6 else if c = 108 then 1 else if c = 114 then 5 else 8
theorem g_59 {te : Nat} (h : gT te 59 = true) : te % 5 = 4 ∧ 4 < te := by
  unfold gT at h
  by_cases z0 : te % 5 = 0
  · rw [if_pos z0] at h; exact absurd h (by decide)
  rw [if_neg z0] at h
  by_cases z1 : te % 5 = 1
  · rw [if_pos z1] at h; exact absurd h (by decide)
  rw [if_neg z1] at h
  by_cases z2 : te % 5 = 2
  · rw [if_pos z2] at h; exact absurd h (by decide)
  rw [if_neg z2] at h
  by_cases z3 : te % 5 = 3
  · rw [if_pos z3] at h; exact absurd h (by decide)
  rw [if_neg z3] at h
  have := of_decide_eq_true h
  omega
/-- what a page without fault holds -/
def jsh (c : Nat → Nat) (te n T np : Nat) : Prop := te + 1 = 5 * T ∧ 2 ≤ T ∧ T ≤ 5 ∧ 1 ≤ np ∧ np ≤ 5 ∧ n = te + 1 + 2 * np ∧ (∀ i, i < T → gK (c (5 * i)) = true ∧ gD (c (5 * i + 1)) 48 55 = true ∧ gD (c (5 * i + 2)) 49 52 = true ∧ gD (c (5 * i + 3)) 48 57 = true) ∧ ∀ p, p < np → gD (c (te + 1 + 2 * p)) 48 57 = true ∧ gD (c (te + 2 + 2 * p)) 48 53 = true
theorem g_show {c : Nat → Nat} {te n np : Nat} (hg : ∀ j, j < n → jgood c te j = true) (hte : te < n) (h59 : c te = 59) (hmin : ∀ j, j < te → c j ≠ 59) (hn : n = te + 1 + 2 * np) (hnp : 1 ≤ np) : ∃ T, jsh c te n T np := by
  have g0 := hg te hte
  unfold jgood at g0
  rw [if_pos (Nat.le_refl te), h59] at g0
  obtain ⟨m5, m4⟩ := g_59 g0
  have h24 : te ≤ 24 := by
    cases Nat.lt_or_ge 24 te with
    | inr y => exact y
    | inl y =>
      have g1 := hg 24 (by omega)
      unfold jgood at g1
      rw [if_pos (by omega)] at g1
      unfold gT at g1
      rw [if_neg (by decide), if_neg (by decide), if_neg (by decide), if_neg (by decide)] at g1
      have := of_decide_eq_true g1
      have := hmin 24 y
      omega
  have h10 : np ≤ 5 := by
    have g1 := hg (n - 1) (by omega)
    unfold jgood at g1
    rw [if_neg (by omega)] at g1
    unfold gP at g1
    by_cases z : 10 ≤ n - 1 - te - 1
    · rw [if_pos z] at g1; exact absurd g1 (by decide)
    · omega
  refine ⟨(te + 1) / 5, by omega, by omega, by omega, hnp, h10, hn, fun i hi => ⟨?_, ?_, ?_, ?_⟩, fun p hp => ⟨?_, ?_⟩⟩
  · have g1 := hg (5 * i) (by omega)
    unfold jgood at g1
    rw [if_pos (by omega)] at g1
    unfold gT at g1
    rw [if_pos (by omega)] at g1
    exact g1
  · have g1 := hg (5 * i + 1) (by omega)
    unfold jgood at g1
    rw [if_pos (by omega)] at g1
    unfold gT at g1
    rw [if_neg (by omega), if_pos (by omega)] at g1
    exact g1
  · have g1 := hg (5 * i + 2) (by omega)
    unfold jgood at g1
    rw [if_pos (by omega)] at g1
    unfold gT at g1
    rw [if_neg (by omega), if_neg (by omega), if_pos (by omega)] at g1
    exact g1
  · have g1 := hg (5 * i + 3) (by omega)
    unfold jgood at g1
    rw [if_pos (by omega)] at g1
    unfold gT at g1
    rw [if_neg (by omega), if_neg (by omega), if_neg (by omega), if_pos (by omega)] at g1
    exact g1
  · have g1 := hg (te + 1 + 2 * p) (by omega)
    unfold jgood at g1
    rw [if_neg (by omega)] at g1
    unfold gP at g1
    rw [if_neg (by omega), if_pos (by omega)] at g1
    exact g1
  · have g1 := hg (te + 2 + 2 * p) (by omega)
    unfold jgood at g1
    rw [if_neg (by omega)] at g1
    unfold gP at g1
    rw [if_neg (by omega), if_neg (by omega)] at g1
    exact g1
/-- the trick that is read -/
def cq (c : Nat → Nat) (i : Nat) : tk_Q := (cci (c (5 * i)), nI (c (5 * i + 1) - 48), nI (c (5 * i + 2) - 48), nI (c (5 * i + 3) - 48))
def ccell (c : Nat → Nat) (i : Nat) : kv_C := .inr (.inr ((cq c i).1, [.int (cq c i).2.1, .int (cq c i).2.2.1, .int (cq c i).2.2.2]))
theorem cci_ok (c : Nat) : cci c = 1 ∨ cci c = 3 ∨ cci c = 5 ∨ cci c = 6 ∨ cci c = 8 := by
  unfold cci
  repeat' split
  all_goals omega
theorem cq_q {c : Nat → Nat} {te n T np : Nat} (h : jsh c te n T np) {i : Nat} (hi : i < T) : jq (cq c i) := by
  obtain ⟨_, _, _, _, _, _, h7, _⟩ := h
  obtain ⟨_, d1, d2, d3⟩ := h7 i hi
  have d1 := of_decide_eq_true d1
  have d2 := of_decide_eq_true d2
  have d3 := of_decide_eq_true d3
  exact ⟨cci_ok _, _, _, _, by omega, by omega, by omega, by omega, rfl⟩
theorem g_kindq : ∀ x, x < 127 → gK x = true → fX11_kindBy (nI x) = (if cci x = 1 then 3 else if cci x = 3 then 1 else if cci x = 5 then 4 else if cci x = 6 then 2 else 0) := by decide +kernel
section SH
variable {G : kg_G}
theorem x_digitAt {i c : Nat} (hi : i < 36) (hc : kv_g (G.2.1 2) (nI i) = some (nI c)) (h48 : 48 ≤ c) : fX2_digitAt G (nI i) = some (nI (c - 48)) := by
  unfold fX2_digitAt
  have q1 : ¬ (36 : Int32) ≤ nI i := m_loop (m := 36) (by omega) hi
  rw [if_neg (kn_neg (by omega)), if_neg q1, hc, Option.bind_some]
  exact congrArg some (kn_sub (a := c) (b := 48) h48)
theorem x_readTrick {c : Nat → Nat} {n te T np : Nat} (hs : jsh c te n T np) (hp : ∀ i, i < n → c i < 127 ∧ kv_g (G.2.1 2) (nI i) = some (nI (c i))) {i : Nat} (hi : i < T) : fX2_readTrick kN G (nI i * 5) = some ((kg_Y G).length + 45, kg_y G (kg_Y G ++ [ccell c i])) := by
  obtain ⟨h1, h2, h3, h4, h5, h6, h7, h8⟩ := hs
  obtain ⟨k0, d1, d2, d3⟩ := h7 i hi
  have d1 := of_decide_eq_true d1
  have d2 := of_decide_eq_true d2
  have d3 := of_decide_eq_true d3
  have e5 : nI i * 5 = nI (5 * i) := by
    rw [Nat.mul_comm]; exact kn_mul i 5
  unfold fX2_readTrick
  rw [e5, kn_succ, kn_p2, kn_p3, x_digitAt (by omega) (hp (5 * i + 1) (by omega)).2 (by omega), Option.bind_some, x_digitAt (by omega) (hp (5 * i + 2) (by omega)).2 (by omega), Option.bind_some, x_digitAt (by omega) (hp (5 * i + 3) (by omega)).2 (by omega), Option.bind_some, (hp (5 * i) (by omega)).2, Option.bind_some, g_idx _ (hp (5 * i) (by omega)).1, Option.bind_some]
  unfold ccell cq cci
  generalize c (5 * i) = x
  by_cases z1 : x = 116
  · subst z1; rfl
  by_cases z2 : x = 112
  · subst z2; rfl
  by_cases z3 : x = 115
  · subst z3; rfl
  by_cases z4 : x = 108
  · subst z4; rfl
  by_cases z5 : x = 114
  · subst z5; rfl
  simp only [z1, z2, z3, z4, z5, if_false]
  rfl
end SH
/-! cells of what is made -/
theorem kc_at (Y cs : kv_H) (a : kv_C) : (Y ++ a :: cs)[Y.length]? = some a := by
  rw [List.getElem?_append_right (Nat.le_refl _), Nat.sub_self]; rfl
theorem kc_at1 (Y cs : kv_H) (a : kv_C) (j : Nat) : (Y ++ a :: cs)[Y.length + 1 + j]? = cs[j]? := by
  rw [List.getElem?_append_right (by omega), show Y.length + 1 + j - Y.length = j + 1 by omega]; rfl
theorem kc_set (Y cs : kv_H) (a b : kv_C) : (Y ++ a :: cs).set Y.length b = Y ++ b :: cs := by
  rw [List.set_append_right _ _ (Nat.le_refl _), Nat.sub_self]; rfl
theorem kg_im_hi (Y : kv_H) {b : Nat} (h : 45 ≤ b) : kg_im Y b = Y[b - 45]? := by
  unfold kg_im
  rw [if_neg (by omega), if_neg (by omega), if_neg (by omega)]
def cws (B T i : Nat) : List (Option Nat) := (List.range T).map (fun j => if j < i then some (B + j) else none)
theorem cws_len (B T i : Nat) : (cws B T i).length = T := by unfold cws; rw [List.length_map, List.length_range]
theorem cws_0 (B T : Nat) : List.replicate T none = cws B T 0 := by
  unfold cws
  apply List.ext_getElem?
  intro i
  rw [List.getElem?_map, List.getElem?_replicate]
  by_cases h : i < T
  · rw [if_pos h, List.getElem?_range h]; rfl
  · rw [if_neg h, List.getElem?_eq_none (by rw [List.length_range]; omega)]; rfl
theorem cws_s {B T i : Nat} (hi : i < T) : (cws B T i).set i (some (B + i)) = cws B T (i + 1) := by
  apply List.ext_getElem?
  intro k
  rw [List.getElem?_set, cws_len]
  unfold cws
  rw [List.getElem?_map, List.getElem?_map]
  by_cases e : i = k
  · subst e
    rw [if_pos rfl, if_pos hi, List.getElem?_range hi]
    show some (some (B + i)) = some (if i < i + 1 then some (B + i) else none)
    rw [if_pos (by omega)]
  · rw [if_neg e]
    by_cases h : k < T
    · rw [List.getElem?_range h]
      show some (if k < i then some (B + k) else none) = some (if k < i + 1 then some (B + k) else none)
      by_cases w : k < i
      · rw [if_pos w, if_pos (by omega)]
      · rw [if_neg w, if_neg (by omega)]
    · rw [List.getElem?_eq_none (by rw [List.length_range]; omega)]; rfl
theorem cws_q {B T i : Nat} (hi : i < T) (hT : T < 100) : kv_q (cws B T T) (nI i) = some (B + i) := by
  refine kn_q ?_ (by omega)
  unfold cws
  rw [List.getElem?_map, List.getElem?_range hi]
  show some (if i < T then some (B + i) else none) = _
  rw [if_pos hi]
def ccs (c : Nat → Nat) (i : Nat) : kv_H := (List.range i).map (ccell c)
theorem ccs_s (c : Nat → Nat) (i : Nat) : ccs c i ++ [ccell c i] = ccs c (i + 1) := by
  unfold ccs
  rw [List.range_succ, List.map_append]; rfl
theorem ccs_len (c : Nat → Nat) (i : Nat) : (ccs c i).length = i := by unfold ccs; rw [List.length_map, List.length_range]
theorem ccs_at (c : Nat → Nat) {i j : Nat} (h : j < i) : (ccs c i)[j]? = some (ccell c j) := by
  unfold ccs
  rw [List.getElem?_map, List.getElem?_range h]; rfl
theorem kg_tr_c (Y : kv_H) {c : Nat → Nat} {i b : Nat} (hb : 45 ≤ b) (h : Y[b - 45]? = some (ccell c i)) : kg_tr Y b = some (cq c i) := by
  unfold kg_tr
  rw [kg_im_hi Y hb, h]
  unfold ccell
  show (if (cq c i).1 = 1 ∨ (cq c i).1 = 3 ∨ (cq c i).1 = 5 ∨ (cq c i).1 = 6 ∨ (cq c i).1 = 8 then some ((cq c i).1, (cq c i).2.1, (cq c i).2.2.1, (cq c i).2.2.2) else none) = _
  have hc : (cq c i).1 = 1 ∨ (cq c i).1 = 3 ∨ (cq c i).1 = 5 ∨ (cq c i).1 = 6 ∨ (cq c i).1 = 8 := cci_ok _
  rw [if_pos hc]
theorem kg_ta_c (Y : kv_H) {ws : List (Option Nat)} {b : Nat} (hb : 45 ≤ b) (h : Y[b - 45]? = some (.inr (.inl ws))) : kg_ta Y b = some ws := by
  unfold kg_ta
  rw [kg_im_hi Y hb, h]
theorem kg_bl_c (Y : kv_H) {t b : Nat} {v : Int32} (hb : 45 ≤ b) (h : Y[b - 45]? = some (.inr (.inr (0, [.ref t, .int v])))) : kg_bl Y b = some (t, v) := by
  unfold kg_bl
  rw [kg_im_hi Y hb, h]
  rfl
