/-! WHAT IS ASKED FOR: numbers of tricks and people -/
theorem lg_lt (x y : Int64) : (lg_cmp x y < 0) = (x.toInt < y.toInt) := by
  unfold lg_cmp
  by_cases h1 : x > y
  · have := Int64.lt_iff_toInt_lt.mp h1
    rw [if_pos h1]
    exact propext ⟨fun z => absurd z (by decide), fun z => by omega⟩
  · by_cases h2 : x = y
    · rw [if_neg h1, if_pos h2, h2]
      exact propext ⟨fun z => absurd z (by decide), fun z => by omega⟩
    · rw [if_neg h1, if_neg h2]
      refine propext ⟨fun _ => ?_, fun z => by decide⟩
      have a1 : ¬ y.toInt < x.toInt := fun z => h1 (Int64.lt_iff_toInt_lt.mpr z)
      have a2 : x.toInt ≠ y.toInt := fun z => h2 (Int64.toInt_inj.mp z)
      omega
theorem lg_gt (x y : Int64) : (0 < lg_cmp x y) = (y.toInt < x.toInt) := by
  unfold lg_cmp
  by_cases h1 : x > y
  · have := Int64.lt_iff_toInt_lt.mp h1
    rw [if_pos h1]
    exact propext ⟨fun _ => this, fun z => by decide⟩
  · have a1 : ¬ y.toInt < x.toInt := fun z => h1 (Int64.lt_iff_toInt_lt.mpr z)
    rw [if_neg h1]
    refine propext ⟨fun z => ?_, fun z => absurd z a1⟩
    by_cases h2 : x = y
    · rw [if_pos h2] at z; exact absurd z (by decide)
    · rw [if_neg h2] at z; exact absurd z (by decide)
theorem in_int (a : Int32) (b c : Int64) : fX11_in a.toInt64 b c = if a.toInt < b.toInt then 0 else if c.toInt < a.toInt then 0 else 1 := by
  unfold fX11_in
  simp only [lg_lt, lg_gt, Int32.toInt_toInt64]
def jin (l : Int32) (T : Nat) : Bool := decide (0 ≤ l.toInt ∧ l.toInt < T)
theorem jin_of {l : Int32} {T : Nat} (h : jin l T = true) (hT : T < 100) : ∃ t, t < T ∧ l = nI t := by
  have := of_decide_eq_true h
  refine ⟨l.toInt.toNat, by omega, ?_⟩
  apply Int32.toInt_inj.mp
  rw [kn_int (by omega)]; omega
theorem jm1 : ∀ T, T < 6 → (nI T - 1).toInt64.toInt = (T : Int) - 1 := by decide +kernel
theorem i_neg (l : Int32) : (l < 0) = (l.toInt < 0) := propext (Int32.lt_iff_toInt_lt (x := l) (y := 0))
theorem kj_refl (G : kg_G) : kj_b G G := ⟨Nat.le_add_right _ _, Nat.le_add_right _ _⟩
theorem kN_gt : 100 < kN := by decide
section JA
variable {N : Nat} {G : kg_G} {T np : Nat} {q : Nat → tk_Q} {D : jD}
theorem in_lem {l : Int32} {T : Nat} (hT : T < 6) : fX11_in l.toInt64 0 ((nI T - 1).toInt64) = if jin l T then 1 else 0 := by
  rw [in_int, jm1 T hT]
  unfold jin
  have : (0 : Int64).toInt = 0 := rfl
  rw [this]
  by_cases h1 : l.toInt < 0
  · have : ¬ (0 ≤ l.toInt ∧ l.toInt < T) := by omega
    simp [h1, this]
  · by_cases h2 : (T : Int) - 1 < l.toInt
    · have : ¬ (0 ≤ l.toInt ∧ l.toInt < T) := by omega
      simp [h1, h2, this]
    · have : (0 ≤ l.toInt ∧ l.toInt < T) := by omega
      simp [h1, h2, this]
theorem m_isTrick (h : jM N G T np q D) (l : Int32) : fX11_isTrick G l = some (if jin l T then 1 else 0) := by
  unfold fX11_isTrick
  rw [m_T h, in_lem (by have := h.2.1.1; omega), if_pos]
  split <;> rfl
theorem m_isPerson (h : jM N G T np q D) (l : Int32) : fX11_isPerson G l = some (if jin l np then 1 else 0) := by
  unfold fX11_isPerson
  rw [m_np h, in_lem (by have := h.2.1.2.1; omega), if_pos]
  split <;> rfl
theorem x_isTrick (h : jX N G T np q D) (l : Int32) : fX10_isTrick G l = some (if jin l T then 1 else 0) := by
  obtain ⟨hL, hU, ⟨t0, ws, x, hb, hta, hl, hx⟩, hT, hV, hN⟩ := h
  have h5 := hU.1
  unfold fX10_isTrick jin
  rw [hb, Option.bind_some, hta, Option.bind_some, hl]
  simp only [i_neg, Int32.le_iff_toInt_le, kn_int (show T < 2147483648 by omega)]
  by_cases h1 : l.toInt < 0
  · have : ¬ (0 ≤ l.toInt ∧ l.toInt < T) := by omega
    simp [h1, this]
  · by_cases h2 : (T : Int) ≤ l.toInt
    · have : ¬ (0 ≤ l.toInt ∧ l.toInt < T) := by omega
      simp [h1, h2, this]
    · have : (0 ≤ l.toInt ∧ l.toInt < T) := by omega
      simp [h1, h2, this]
theorem x_isNumber (h : jX N G T np q D) (l : Int32) : fX10_isNumber G l = some (if jin l np then 1 else 0) := by
  obtain ⟨hL, hU, ⟨t0, ws, x, hb, hta, hl, hx⟩, hT, hV, hN⟩ := h
  have h5 := hU.2.1
  unfold fX10_isNumber jin
  rw [hb, Option.bind_some]
  simp only [i_neg, Int32.le_iff_toInt_le, kn_int (show np < 2147483648 by omega)]
  by_cases h1 : l.toInt < 0
  · have : ¬ (0 ≤ l.toInt ∧ l.toInt < np) := by omega
    simp [h1, this]
  · by_cases h2 : (np : Int) ≤ l.toInt
    · have : ¬ (0 ≤ l.toInt ∧ l.toInt < np) := by omega
      simp [h1, h2, this]
    · have : (0 ≤ l.toInt ∧ l.toInt < np) := by omega
      simp [h1, h2, this]
theorem x_hasShow (h : jX N G T np q D) : fX10_hasShow G = some (if T = 0 then 0 else 1) := by
  obtain ⟨hL, hU, ⟨t0, ws, x, hb, hta, hl, hx⟩, hT, hV, hN⟩ := h
  have h5 := hU.1
  unfold fX10_hasShow
  have e : (nI T ≤ 0) = (T = 0) := by
    have := kn_le (a := T) (b := 0) (by omega) (by omega)
    exact this.trans (propext (by omega))
  simp only [hb, Option.bind_some, hta, hl, e]
  split <;> rfl
theorem m_lacks (h : jM N G T np q D) : fX11_lacks G = if T = 0 then 1 else 0 := by
  unfold fX11_lacks
  have h5 := h.2.1.1
  have e : (nI T = 0) = (T = 0) := kn_eq (a := T) (b := 0) (by omega) (by omega)
  simp only [m_T h, e]
end JA
theorem jJ_XM {k : Nat} {G : kg_G} (h : jJ k G) : ∃ T np q D, jX kN G T np q D ∧ jM kN G T np q D := by
  obtain ⟨hL, hP, hA, hN, T, np, q, D, hU, hB, hR, hC, hM, hV, hK⟩ := h
  exact ⟨T, np, q, D, ⟨hL, hU, hB, hC, hV, kN_gt⟩, ⟨hL, hU, hR, hM, hV, kN_gt⟩⟩
/-- an order that only asks -/
theorem kj_ask {f g : kg_G → Option Int32} (h : ∀ G T np q D, jX kN G T np q D → jM kN G T np q D → ∃ r, f G = some r ∧ g G = some r) : kj_op jJ (fun G => (f G).map (fun r => (r, G))) (fun G => (g G).map (fun r => (r, G))) := by
  intro k G hk hJ
  obtain ⟨T, np, q, D, hX, hM⟩ := jJ_XM hJ
  obtain ⟨r, e1, e2⟩ := h G T np q D hX hM
  exact ⟨r, G, G, by show (f G).map _ = _; rw [e1]; rfl, by show (g G).map _ = _; rw [e2]; rfl, jJ_m k G hJ, kj_refl G⟩
section JO
variable {N : Nat} {G : kg_G} {T np : Nat} {q : Nat → tk_Q} {D : jD}
theorem tell_trick {G' : kg_G} (hX : jX N G T np q D) (hM : jM N G' T np q D) {t : Nat} (ht : t < T) (b : Int32) : ∃ r, fX10_trick N G (nI t) b = some r ∧ fX11_tellTrick N G' (nI t) b = some r := by
  have h5 := hX.2.1.1
  have e1 : fX10_isTrick G (nI t) = some 1 := by
    rw [x_isTrick hX, if_pos]
    unfold jin
    rw [kn_int (by omega)]
    exact decide_eq_true (by omega)
  have hX' := hX
  obtain ⟨hL, hU, ⟨t0, ws, x, hb, hta, hl, hx⟩, hT, hV, hN⟩ := hX'
  have hc := hV.2.2.1 t (by omega)
  unfold fX10_trick fX11_tellTrick
  rw [e1, Option.bind_some, if_neg (by decide)]
  simp only [hb, Option.bind_some, hta, (hx t ht).1, (hx t ht).2]
  by_cases b0 : b = 0
  · subst b0
    rw [if_pos rfl, if_pos rfl, i_add0, mr_kind hM ht]
    exact ⟨_, rfl, rfl⟩
  rw [if_neg b0, if_neg b0]
  by_cases b1 : b = 1
  · subst b1
    rw [if_pos rfl, if_pos rfl, mr_hour hM ht]
    exact ⟨_, rfl, rfl⟩
  rw [if_neg b1, if_neg b1]
  by_cases b2 : b = 2
  · subst b2
    rw [if_pos rfl, if_pos rfl, mr_hours hM ht]
    exact ⟨_, rfl, rfl⟩
  rw [if_neg b2, if_neg b2]
  by_cases b3 : b = 3
  · subst b3
    rw [if_pos rfl, if_pos rfl, mr_need hM ht]
    exact ⟨_, rfl, rfl⟩
  rw [if_neg b3, if_neg b3]
  by_cases b4 : b = 4
  · rw [if_pos b4, if_pos b4, m_wantsOf hM ht]
    exact ⟨_, rfl, rfl⟩
  rw [if_neg b4, if_neg b4]
  by_cases b5 : b = 5
  · rw [if_pos b5, if_pos b5, xc_g hX (by omega), mc_g hM ht]
    exact ⟨_, rfl, rfl⟩
  rw [if_neg b5, if_neg b5]
  by_cases b6 : b = 6
  · rw [if_pos b6, if_pos b6, x_isDoneNow hX ht]
    simp only [mc_g hM ht, Option.bind_some, m_isDoneBy hM ht hc.1 hc.2.1]
    by_cases z : jdone (q t) (jst D) (jcs D t) = true
    · exact ⟨1, by simp [z], by simp [z]⟩
    · exact ⟨0, by simp [z], by simp [z]⟩
  rw [if_neg b6, if_neg b6]
  by_cases b7 : b = 7
  · rw [if_pos b7, if_pos b7, x_suitedFor hX (hx t ht).2, m_fittingSet hM ht]
    exact ⟨_, rfl, rfl⟩
  rw [if_neg b7, if_neg b7]
  by_cases b8 : b = 8
  · rw [if_pos b8, if_pos b8, x_clashesOf hX ht, m_clashSet hM ht]
    exact ⟨_, rfl, rfl⟩
  rw [if_neg b8, if_neg b8]
  exact ⟨_, rfl, rfl⟩
end JO
theorem op_trick : ∀ (a1 a2 : Int32), kj_op jJ (fun G => kjx_trick G a1 a2) (fun G => kjm_trick G a1 a2) := by
  intro a1 a2
  refine kj_ask ?_
  intro G T np q D hX hM
  by_cases h : jin a1 T = true
  · obtain ⟨t, ht, rfl⟩ := jin_of h (by have := hX.2.1.1; omega)
    obtain ⟨r, e1, e2⟩ := tell_trick hX hM ht a2
    refine ⟨r, e1, ?_⟩
    unfold fX11_trick
    rw [m_isTrick hM, if_pos h, Option.bind_some, if_neg (by decide), e2]; rfl
  · refine ⟨-101, ?_, ?_⟩
    · unfold fX10_trick
      rw [x_isTrick hX, if_neg h]; rfl
    · unfold fX11_trick
      rw [m_isTrick hM, if_neg h]; rfl
