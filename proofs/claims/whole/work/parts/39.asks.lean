/-! ORDERS that only ask: as, person, wants, count -/
section JO2
variable {N : Nat} {G : kg_G} {T np : Nat} {q : Nat → tk_Q} {D : jD}
theorem jin_nI {t T : Nat} (h : t < T) (hT : T < 100) : jin (nI t) T = true := by
  unfold jin
  rw [kn_int (by omega)]
  exact decide_eq_true (by omega)
theorem tell_person {G' : kg_G} (hX : jX N G T np q D) (hM : jM N G' T np q D) {p : Nat} (hp : p < np) (b : Int32) : ∃ r, fX10_person N G (nI p) b = some r ∧ fX11_tellPerson N G' (nI p) b = some r := by
  have h5 := hX.2.1.2.1
  have hp5 : p < 5 := by omega
  have e1 : fX10_isNumber G (nI p) = some 1 := by rw [x_isNumber hX, if_pos (jin_nI hp (by omega))]
  obtain ⟨t0, ws, x, hb, _⟩ := hX.2.2.1
  unfold fX10_person fX11_tellPerson
  rw [e1, Option.bind_some, if_neg (by decide), x_has hX hp5]
  by_cases b0 : b = 0
  · rw [if_pos b0, if_pos b0, m_isKept hM hp, mf_0 hM hp]
    by_cases z : (jk D).testBit p = true
    · rw [xs_g hX hp5 z]
      exact ⟨jst D p, by simp [z], by simp [z]⟩
    · exact ⟨-1, by simp [z], by simp [z]⟩
  rw [if_neg b0, if_neg b0]
  by_cases b1 : b = 1
  · rw [if_pos b1, if_pos b1, mf_1 hM hp]
    by_cases z : (jk D).testBit p = true
    · rw [xt_g hX hp5 z]
      exact ⟨jtw D p, by simp [z], by simp [z]⟩
    · exact ⟨-1, by simp [z], by simp [z]⟩
  rw [if_neg b1, if_neg b1]
  by_cases b2 : b = 2
  · rw [if_pos b2, if_pos b2, m_isKept hM hp]
    by_cases z : (jk D).testBit p = true
    · exact ⟨1, by simp [z], by simp [z]⟩
    · exact ⟨0, by simp [z], by simp [z]⟩
  rw [if_neg b2, if_neg b2]
  by_cases b3 : b = 3
  · rw [if_pos b3, if_pos b3, x_tricksOf hX hp5, m_castSet hM hp5]
    exact ⟨_, rfl, rfl⟩
  rw [if_neg b3, if_neg b3]
  by_cases b4 : b = 4
  · rw [if_pos b4, if_pos b4, x_tricksOf hX hp5, Option.bind_some, hb, Option.bind_some, x_busyHoursOf hX, m_busySet hM hp5]
    exact ⟨_, rfl, rfl⟩
  rw [if_neg b4, if_neg b4]
  by_cases b5 : b = 5
  · rw [if_pos b5, if_pos b5, mf_2 hM hp]
    by_cases z : (jk D).testBit p = true
    · rw [xh_g hX hp5 z]
      exact ⟨jhd D p, by simp [z], by simp [z]⟩
    · exact ⟨0, by simp [z], by simp [z]⟩
  rw [if_neg b5, if_neg b5]
  by_cases b6 : b = 6
  · rw [if_pos b6, if_pos b6, x_strongsOf hX hp5, m_strongsOf hM hp5]
    exact ⟨_, rfl, rfl⟩
  rw [if_neg b6, if_neg b6]
  by_cases b7 : b = 7
  · rw [if_pos b7, if_pos b7, x_strongsOf hX hp5, Option.bind_some, hb, Option.bind_some, x_trickToTry hX (m := jso q D p) (kset_lt10 _), m_tryOf hM hp5]
    exact ⟨_, rfl, rfl⟩
  rw [if_neg b7, if_neg b7]
  exact ⟨_, rfl, rfl⟩
theorem ask_wants (hX : jX N G T np q D) (hM : jM N G T np q D) (b : Int32) : ∃ r, fX10_wants N G b = some r ∧ fX11_wants N G b = some r := by
  have e : fX11_in b.toInt64 0 11 = if b < 0 then 0 else if b ≤ 11 then 1 else 0 := by
    rw [in_int]
    have a0 : (0 : Int64).toInt = 0 := rfl
    have a1 : (11 : Int64).toInt = 11 := rfl
    have a2 : (11 : Int32).toInt = 11 := rfl
    simp only [i_neg, Int32.le_iff_toInt_le, a0, a1, a2]
    by_cases z : b.toInt < 0
    · simp [z]
    · by_cases y : b.toInt ≤ 11
      · have : ¬ 11 < b.toInt := by omega
        simp [z, y, this]
      · have : 11 < b.toInt := by omega
        simp [z, y, this]
  obtain ⟨t0, ws, x, hb, _⟩ := hX.2.2.1
  unfold fX10_wants fX11_wants
  rw [e, x_hasShow hX, m_lacks hM, hb]
  by_cases z : b < 0
  · exact ⟨-102, by simp [z], by simp [z]⟩
  · by_cases y : b ≤ 11
    · by_cases w : T = 0
      · exact ⟨-103, by simp [z, y, w], by simp [z, y, w]⟩
      · obtain ⟨i, hi, rfl⟩ := kn_of z
        have : i < 12 := by
          have y' : nI i ≤ nI 11 := y
          rw [kn_le hi (by omega)] at y'; omega
        refine ⟨jwa q T i, ?_, ?_⟩
        · simp [z, y, w, x_wantedIn hX]
        · simp [z, y, w, m_wantsAt hM this]
    · exact ⟨-102, by simp [z, y], by simp [z, y]⟩
theorem ask_as (hX : jX N G T np q D) (hM : jM N G T np q D) (a b : Int32) : ∃ r, fX10_as G a b = some r ∧ fX11_as G a b = some r := by
  unfold fX10_as fX11_as
  rw [x_isTrick hX, m_isTrick hM]
  have e : fX11_in b.toInt64 0 4 = if b < 0 then 0 else if b < 5 then 1 else 0 := by
    rw [in_int]
    have a0 : (0 : Int64).toInt = 0 := rfl
    have a1 : (4 : Int64).toInt = 4 := rfl
    have a2 : (5 : Int32).toInt = 5 := rfl
    simp only [i_neg, Int32.lt_iff_toInt_lt, a0, a1, a2]
    by_cases z : b.toInt < 0
    · simp [z]
    · by_cases y : b.toInt < 5
      · have : ¬ 4 < b.toInt := by omega
        simp [z, y, this]
      · have : 4 < b.toInt := by omega
        simp [z, y, this]
  rw [e]
  by_cases h : jin a T = true
  · obtain ⟨t, ht, rfl⟩ := jin_of h (by have := hX.2.1.1; omega)
    rw [if_pos h]
    by_cases z : b < 0
    · exact ⟨-102, by simp [z], by simp [z]⟩
    · by_cases y : b < 5
      · obtain ⟨hL, hU, ⟨t0, ws, x, hb, hta, hl, hx⟩, hT, hV, hN⟩ := hX
        have hq := hU.2.2.2 t ht
        obtain ⟨i, hi, rfl⟩ := kn_of z
        have hi5 : i < 5 := by
          have y' : nI i < nI 5 := y
          rw [kn_lt hi (by omega)] at y'; omega
        simp only [hb, Option.bind_some, hta, (hx t ht).1, (hx t ht).2, mr_kind hM ht, z, y, if_false, if_true]
        unfold fX10_isOfKind fX11_as_54 fX11_as_58 fX11_as_59 tk_inst1 tk_inst3 tk_inst5 tk_inst6
        simp only [(hx t ht).2, Option.bind_some]
        unfold tk_kind
        have : i = 0 ∨ i = 1 ∨ i = 2 ∨ i = 3 ∨ i = 4 := by omega
        rcases this with w | w | w | w | w <;> subst w <;> rcases hq.1 with k | k | k | k | k <;> rw [k] <;> exact ⟨_, rfl, rfl⟩
      · exact ⟨-102, by simp [z, y], by simp [z, y]⟩
  · exact ⟨-101, by simp [h], by simp [h]⟩
end JO2
theorem op_person : ∀ (a1 a2 : Int32), kj_op jJ (fun G => kjx_person G a1 a2) (fun G => kjm_person G a1 a2) := by
  intro a1 a2
  refine kj_ask ?_
  intro G T np q D hX hM
  by_cases h : jin a1 np = true
  · obtain ⟨t, ht, rfl⟩ := jin_of h (by have := hX.2.1.2.1; omega)
    obtain ⟨r, e1, e2⟩ := tell_person hX hM ht a2
    refine ⟨r, e1, ?_⟩
    unfold fX11_person
    rw [m_isPerson hM, if_pos h, Option.bind_some, if_neg (by decide), e2]; rfl
  · refine ⟨-101, ?_, ?_⟩
    · unfold fX10_person
      rw [x_isNumber hX, if_neg h]; rfl
    · unfold fX11_person
      rw [m_isPerson hM, if_neg h]; rfl
theorem op_as : ∀ (a1 a2 : Int32), kj_op jJ (fun G => kjx_as G a1 a2) (fun G => kjm_as G a1 a2) := fun a1 a2 => kj_ask (fun G T np q D hX hM => ask_as hX hM a1 a2)
theorem op_wants : ∀ (a1 : Int32), kj_op jJ (fun G => kjx_wants G a1) (fun G => kjm_wants G a1) := fun a1 => kj_ask (fun G T np q D hX hM => ask_wants hX hM a1)
