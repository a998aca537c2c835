/-! SHOW, the order -/
def jshow (c : Nat → Nat) (n : Nat) : Prop := jte c n < n ∧ 0 < n - jte c n - 1 ∧ (n - jte c n - 1) % 2 = 0 ∧ jff c n = n
theorem g_3 : ∀ x, x < 40 → (nI x < (3 : Int32)) = (x < 3) := fun x hx => kn_lt (a := x) (b := 3) (by omega) (by omega)
theorem jte_le (c : Nat → Nat) (n : Nat) : jte c n ≤ n ∧ (jte c n < n → c (jte c n) = 59) ∧ ∀ j, j < jte c n → c j ≠ 59 := by
  obtain ⟨a1, a2, a3, a4⟩ := kffg_ok (fun j => !(decide (c j = 59))) n 0
  refine ⟨by have := a2; unfold jte; omega, fun h => ?_, fun j hj => ?_⟩
  · have := a4 (by unfold jte at h; omega)
    have h2 : (!(decide (c (jte c n) = 59))) = false := this
    simpa using h2
  · have := a3 j (by omega) hj
    simpa using this
theorem jff_le (c : Nat → Nat) (n : Nat) : jff c n ≤ n ∧ ∀ j, j < jff c n → jgood c (jte c n) j = true := by
  obtain ⟨a1, a2, a3, a4⟩ := kffg_ok (jgood c (jte c n)) n 0
  exact ⟨by have := a2; unfold jff; omega, fun j hj => a3 j (by omega) hj⟩
theorem x_isShow {G : kg_G} {n : Nat} {c : Nat → Nat} (h : jpg G n c) : (jshow c n → fX2_isShow kN G = some 1) ∧ (¬ jshow c n → fX2_isShow kN G = some 0) := by
  have ht := (jte_le c n).1
  have hff := (jff_le c n).1
  have hn := h.1
  have base : fX2_isShow kN G = if ((nI n - nI (jte c n)) - 1) ≤ 0 then some 0 else if (((nI n - nI (jte c n)) - 1) - ((nI n - nI (jte c n)) - 1) / 2 * 2) = 0 then (if nI (jff c n) = nI n then some 1 else some 0) else some 0 := by
    unfold fX2_isShow
    rw [x_tricksEnd h, Option.bind_some, h.2.1, x_firstFault h, Option.bind_some]
  have eff : (nI (jff c n) = nI n) = (jff c n = n) := kn_eq (by omega) (by omega)
  unfold jshow
  by_cases z : jte c n < n
  · have ee : (nI n - nI (jte c n)) - 1 = nI (n - jte c n - 1) := by
      rw [kn_sub (by omega)]
      exact kn_sub (a := n - jte c n) (b := 1) (by omega)
    have e0 : (nI (n - jte c n - 1) ≤ 0) = (n - jte c n - 1 ≤ 0) := kn_le (a := n - jte c n - 1) (b := 0) (by omega) (by omega)
    rw [base, ee, g_mod2 _ (by omega)]
    have em := g_j2 ((n - jte c n - 1) % 2) (Nat.mod_lt _ (by decide))
    simp only [e0, em, eff]
    refine ⟨fun ⟨_, s1, s2, s3⟩ => ?_, fun hno => ?_⟩
    · rw [if_neg (by omega), if_pos s2, if_pos s3]
    · by_cases w1 : n - jte c n - 1 ≤ 0
      · rw [if_pos w1]
      · rw [if_neg w1]
        by_cases w2 : (n - jte c n - 1) % 2 = 0
        · rw [if_pos w2, if_neg (fun w3 => hno ⟨z, by omega, w2, w3⟩)]
        · rw [if_neg w2]
  · have e1 : jte c n = n := by omega
    refine ⟨fun s => absurd s.1 z, fun _ => ?_⟩
    rw [base, e1, if_pos]
    have : nI n - nI n = 0 := Int32.sub_self _
    rw [this]; decide
theorem m_noShow {G : kg_G} {n : Nat} {c : Nat → Nat} (h : jpm G n c) (hno : ¬ jshow c n) : fX11_show kN G = some (-103, jSt G (jte c n) (jff c n)) := by
  have ht := (jte_le c n).1
  have hff := (jff_le c n).1
  have hn := h.1
  unfold fX11_show
  rw [m_faultOf h, Option.bind_some]
  have g1 : (jSt G (jte c n) (jff c n)).1 28 1 = nI n := h.2.1
  have g2 : (jSt G (jte c n) (jff c n)).1 28 2 = if jte c n < jff c n then nI (jte c n) else -1 := rfl
  show (if nI (jff c n) < (jSt G (jte c n) (jff c n)).1 28 1 then some (-103, jSt G (jte c n) (jff c n)) else if (jSt G (jte c n) (jff c n)).1 28 2 = (-1) then some (-103, jSt G (jte c n) (jff c n)) else if ((jSt G (jte c n) (jff c n)).1 28 1 - (jSt G (jte c n) (jff c n)).1 28 2) < 3 then some (-103, jSt G (jte c n) (jff c n)) else if (((jSt G (jte c n) (jff c n)).1 28 1 - (jSt G (jte c n) (jff c n)).1 28 2) - ((jSt G (jte c n) (jff c n)).1 28 1 - (jSt G (jte c n) (jff c n)).1 28 2) / 2 * 2) = 0 then some (-103, jSt G (jte c n) (jff c n)) else _) = _
  rw [g1, g2]
  by_cases z1 : jff c n < n
  · rw [if_pos (by rw [kn_lt (by omega) (by omega)]; exact z1)]
  rw [if_neg (by rw [kn_lt (by omega) (by omega)]; exact z1)]
  have e1 : jff c n = n := by omega
  rw [e1]
  by_cases z2 : jte c n < n
  rotate_left
  · rw [if_neg z2, if_pos rfl]
  rw [if_pos z2]
  have hne : ¬ nI (jte c n) = -1 := by
    intro x
    have := kn_neg (n := jte c n) (by omega)
    rw [x] at this
    exact this (by decide)
  rw [if_neg hne, kn_sub (by omega), g_mod2 _ (by omega)]
  have em := g_j2 ((n - jte c n) % 2) (Nat.mod_lt _ (by decide))
  have e3 := g_3 (n - jte c n) (by omega)
  by_cases z3 : n - jte c n < 3
  · rw [if_pos (by rw [e3]; exact z3)]
  rw [if_neg (by rw [e3]; exact z3)]
  rw [if_pos]
  rw [em]
  cases Nat.mod_two_eq_zero_or_one (n - jte c n) with
  | inl y => exact y
  | inr y => exact absurd ⟨z2, by omega, by omega, e1⟩ hno
theorem kb_powb : ∀ np, np < 6 → ∀ p, p < 5 → (2 ^ np - 1).testBit p = decide (p < np) := by decide +kernel
theorem kb_powl : ∀ np, np < 6 → 2 ^ np - 1 < 2 ^ np := by decide +kernel
abbrev jDs (c : Nat → Nat) (te np : Nat) : jD := (2 ^ np - 1, fun p => nI (c (te + 1 + 2 * p) - 48), fun p => nI (c (te + 2 + 2 * p) - 48), fun _ => 0, fun _ => 0, fun _ => 0, 0, fun _ => (0, 0, false))
theorem op_show : kj_op jJ (fun G => kjx_show G) (fun G => kjm_show G) := by
  intro k G hk hJ
  obtain ⟨n, c, hp⟩ := jpg_of hJ.1 hJ.2.1
  by_cases hsw : jshow c n
  rotate_left
  · refine ⟨-103, G, jSt G (jte c n) (jff c n), ?_, m_noShow (jpm_of hp) hsw, jJ_end hJ _, kj_refl _⟩
    show fX10_show kN G = _
    unfold fX10_show
    rw [(x_isShow hp).2 hsw, Option.bind_some, if_pos rfl]
  obtain ⟨hL, hP, hA, hN, _⟩ := hJ
  obtain ⟨w1, w2, w3, w4⟩ := id hsw
  obtain ⟨te, hte⟩ : ∃ te, jte c n = te := ⟨_, rfl⟩
  have htl := jte_le c n
  have hfl := jff_le c n
  rw [w4] at hfl
  rw [hte] at w1 w2 w3 htl hfl
  obtain ⟨T, hs⟩ := g_show (np := (n - te - 1) / 2) hfl.2 w1 (htl.2.1 w1) htl.2.2 (by omega) (by omega)
  obtain ⟨np, hnpd⟩ : ∃ np, np = (n - te - 1) / 2 := ⟨_, rfl⟩
  rw [← hnpd] at hs
  have hs' := hs
  obtain ⟨h1, h2, h3, h4, h5, h6, h7, h8⟩ := hs
  -- the class
  have hrb := x_readBill hs' hp hte
  let Gb := kg_b (kg_y G (cYb (kg_Y G) c T np)) ((kg_Y G).length + 46 + T)
  have hpb : jpg Gb n c := hp
  have hLb : jLn Gb := hL
  obtain ⟨P, p1, p2, p3, p4, p5, p6⟩ := x_readPeople hLb hs' hpb hte
  obtain ⟨⟨r, hr, n1, n2, n3⟩, n4, n5, n6⟩ := hN
  let G1 := kg_i (kg_i (kg_i P 1 1 0) 0 6 0) 0 7 ((P.1 0 7) + 1)
  have hY : P.2.2 = Gb.2.2 := p2.2.2.1
  have hYb : kg_Y P = cYb (kg_Y G) c T np := congrArg (fun z => z.2.2) hY
  have hbill : P.2.2.2.1 = (kg_Y G).length + 46 + T := congrArg (fun z => z.2.1) hY
  have ex : fX10_show kN G = some (nI T, G1) := by
    unfold fX10_show
    rw [(x_isShow hp).1 hsw, Option.bind_some, if_neg (by decide), hrb, Option.bind_some]
    show ((kg_bl (cYb (kg_Y G) c T np) ((kg_Y G).length + 46 + T)).bind fun v3 => (fX2_readPeople kN Gb v3.2).bind _) = _
    rw [cYb_bl, Option.bind_some, p1, Option.bind_some, hYb, hbill, cYb_bl, Option.bind_some, cYb_ta, Option.bind_some, cws_len]
  -- the reference
  have f28 : ∀ j, G1.1 28 j = G.1 28 j := fun j => p2.2.1 28 j (by decide)
  have f29 : G1.2.1 29 = G.2.1 29 := p2.2.2.2 29 (by decide) (by decide) (by decide) (by decide)
  have hL1 : jLn G1 := p2.1
  have hpm : jpm G1 n c := ⟨hp.1, (f28 1).trans hp.2.2.1, fun i hi => ⟨(hp.2.2.2 i hi).1, by rw [f29]; exact (hp.2.2.2 i hi).2.2⟩⟩
  let S := kg_i (kg_i (jSt G1 te n) 28 3 (nI T)) 28 4 (nI np)
  have hvS : vfr G1 S := vfr_i (vfr_i (vfr_i (vfr_refl hL1) 2 _) 3 _) 4 _
  have S2 : S.1 28 2 = nI te := by
    show (if te < n then nI te else -1) = _
    rw [if_pos w1]
  have S11 : S.1 28 11 = nI r := (f28 11).trans n2
  have h29 : ∀ i, i < n → c i < 127 ∧ kv_g (G1.2.1 29) (nI i) = some (nI (c i)) := hpm.2.2
  obtain ⟨R, q1, q2, q3, q4, q5⟩ := m_show78 hs' hvS rfl h29
  obtain ⟨V, v1, v2, v3, v4, v5, v6⟩ := m_show189 hs' q2 ((q3 4).trans rfl) ((q3 2).trans S2) h29
  have R11 : R.1 28 11 = nI r := (q3 11).trans S11
  have R3 : R.1 28 3 = nI T := (q3 3).trans rfl
  rw [R11, kn_succ, R3] at v1
  let G2 := kg_i (kg_i (kg_i (kg_i (kg_i (kg_i (kg_i (kg_i (kg_i V 28 5 0) 28 6 0) 28 7 0) 28 8 0) 28 9 0) 28 10 0) 28 23 0) 28 11 (nI (r + 1))) 28 1 0
  have em : fX11_show kN G1 = some (nI T, G2) := by
    unfold fX11_show
    rw [m_faultOf hpm, Option.bind_some, hte, w4]
    have g1 : (jSt G1 te n).1 28 1 = nI n := hpm.2.1
    have g2 : (jSt G1 te n).1 28 2 = nI te := S2
    have hne : ¬ nI te = -1 := by
      intro x
      have := kn_neg (n := te) (by omega)
      rw [x] at this
      exact this (by decide)
    show (if nI n < (jSt G1 te n).1 28 1 then some (-103, jSt G1 te n) else if (jSt G1 te n).1 28 2 = (-1) then some (-103, jSt G1 te n) else if ((jSt G1 te n).1 28 1 - (jSt G1 te n).1 28 2) < 3 then some (-103, jSt G1 te n) else if (((jSt G1 te n).1 28 1 - (jSt G1 te n).1 28 2) - ((jSt G1 te n).1 28 1 - (jSt G1 te n).1 28 2) / 2 * 2) = 0 then some (-103, jSt G1 te n) else fX11_show_78 kN kN (kg_i (kg_i (jSt G1 te n) 28 3 (((jSt G1 te n).1 28 2 + 1) / 5)) 28 4 (((jSt G1 te n).1 28 1 - (jSt G1 te n).1 28 2) / 2)) 0) = _
    have hn36 := hp.1
    rw [g1, g2, if_neg (by rw [kn_lt (by omega) (by omega)]; omega), if_neg hne, kn_sub (by omega), if_neg (by rw [g_3 _ (by omega)]; omega), g_mod2 _ (by omega), if_neg (by rw [g_j2 _ (Nat.mod_lt _ (by decide))]; omega), kn_succ, g_div5b _ (by omega), g_div2 _ (by omega), show (te + 1) / 5 = T by omega, show (n - te) / 2 = np by omega]
    exact q1.trans v1
  refine ⟨nI T, G1, G2, ex, em, ?_, ?_⟩
  · -- the state
    have fa : ∀ a j, a ≠ 28 → G2.1 a j = G1.1 a j := fun a j ha => (vfr_i (vfr_i (vfr_i (vfr_i (vfr_i (vfr_i (vfr_i (vfr_i (vfr_i v2 5 0) 6 0) 7 0) 8 0) 9 0) 10 0) 23 0) 11 (nI (r + 1))) 1 0).2.1 a j ha
    have far : ∀ a, a ≠ 30 → a ≠ 31 → a ≠ 32 → G2.2.1 a = G1.2.1 a := v2.2.2.2
    have fY : G2.2.2 = G1.2.2 := v2.2.2.1
    have V28 : ∀ j, V.1 28 j = S.1 28 j := fun j => (v3 j).trans (q3 j)
    have gar : ∀ a, a ≠ 4 → a ≠ 5 → a ≠ 6 → a ≠ 7 → G1.2.1 a = G.2.1 a := p2.2.2.2
    have hbit : ∀ p, p < 5 → (2 ^ np - 1).testBit p = true → p < np := fun p hp5 hb => by
      rw [kb_powb np (by omega) p hp5] at hb
      exact of_decide_eq_true hb
    have fin3 : ∀ j, G2.1 3 j = P.1 3 j := fun j => fa 3 j (by decide)
    have kAP : ∀ a i, a ≠ 30 → a ≠ 31 → a ≠ 32 → kA G2 a i = kA P a i := fun a i e1 e2 e3 => by unfold kA; rw [far a e1 e2 e3]; rfl
    refine ⟨v2.1, ⟨?_, ?_, 0, by omega, rfl, fun i hi => by omega⟩, ?_, ⟨⟨r + 1, by omega, ?_, rfl, Or.inr ⟨?_, ?_⟩⟩, ?_, ?_, ?_⟩, T, np, cq c, jDs c te np, ⟨h3, h5, fun e => by omega, fun i hi => cq_q hs' hi⟩, ?_, ⟨?_, ?_, fun i hi => ?_⟩, ⟨?_, fun p hp5 hb => ?_, fun t ht => ?_, fun j a1 a2 => ?_, ?_, fun i hi => absurd hi (Nat.not_lt_zero _)⟩, ⟨fun p hpn => ?_, fun t ht => ?_, ?_, rfl, fun i hi => absurd hi (Nat.not_lt_zero _)⟩, ⟨kb_powl np (by omega), fun p hp5 hb => ⟨?_, ?_⟩, fun t ht => ⟨(by decide : (0 : Nat) < 32), Nat.zero_and _, fun _ => rfl⟩, ⟨0, by omega, rfl⟩, ⟨0, by omega, rfl⟩, Nat.zero_le _, fun i hi => absurd hi (Nat.not_lt_zero _)⟩, fun h06 => ?_⟩
    · rw [far 2 (by decide) (by decide) (by decide), far 29 (by decide) (by decide) (by decide), gar 2 (by decide) (by decide) (by decide) (by decide), gar 29 (by decide) (by decide) (by decide) (by decide)]
      exact hP.1
    · rw [fa 1 1 (by decide)]; rfl
    · rw [far 22 (by decide) (by decide) (by decide), gar 22 (by decide) (by decide) (by decide) (by decide)]
      exact hA
    · rw [fa 0 7 (by decide)]
      show P.1 0 7 + 1 = _
      have : P.1 0 7 = nI r := (p2.2.1 0 7 (by decide)).trans n1
      rw [this, kn_succ]
    · rw [fa 0 6 (by decide)]; rfl
    · have e30 : G2.1 28 30 = G.1 28 30 := (V28 30).trans (f28 30)
      rw [e30]
      rcases n3 with ⟨_, y⟩ | ⟨_, y | ⟨s, hs1, y⟩⟩
      · exact Or.inr ⟨r, by omega, y⟩
      · exact Or.inl y
      · exact Or.inr ⟨s, by omega, y⟩
    · obtain ⟨a, y1, y2, y3⟩ := n4
      exact ⟨a, y1, (fa 0 8 (by decide)).trans ((p2.2.1 0 8 (by decide)).trans y2), (V28 15).trans ((f28 15).trans y3)⟩
    · obtain ⟨a, y1, y2, y3⟩ := n5
      exact ⟨a, y1, (fa 0 9 (by decide)).trans ((p2.2.1 0 9 (by decide)).trans y2), (V28 21).trans ((f28 21).trans y3)⟩
    · obtain ⟨a, y1, y2, y3⟩ := n6
      exact ⟨a, y1, (fa 0 10 (by decide)).trans ((p2.2.1 0 10 (by decide)).trans y2), (V28 22).trans ((f28 22).trans y3)⟩
    · have eY : kg_Y G2 = cYb (kg_Y G) c T np := (congrArg (fun z => z.2.2) fY).trans hYb
      have eb : G2.2.2.2.1 = (kg_Y G).length + 46 + T := (congrArg (fun z => z.2.1) fY).trans hbill
      refine ⟨(kg_Y G).length + 45, cws ((kg_Y G).length + 46) T T, fun i => (kg_Y G).length + 46 + i, ?_, ?_, cws_len _ _ _, fun i hi => ⟨cws_q hi (by omega), ?_⟩⟩
      · rw [eY, eb]; exact cYb_bl _ _ _ _
      · rw [eY]; exact cYb_ta _ _ _ _
      · rw [eY]; exact cYb_tr _ _ _ _ hi
    · exact (V28 3).trans rfl
    · exact (V28 4).trans rfl
    · have := q5 i hi
      have e30 : ∀ x, kA G2 30 x = kA R 30 x := fun x => by
        show (V.2.1 30).getD x 0 = _
        rw [v4]; rfl
      rw [e30, e30, e30, e30]
      exact ⟨this.1, this.2.1, this.2.2.1, this.2.2.2.1⟩
    · rw [fin3]; exact p3
    · have hpn := hbit p hp5 hb
      rw [kAP _ _ (by decide) (by decide) (by decide), kAP _ _ (by decide) (by decide) (by decide), kAP _ _ (by decide) (by decide) (by decide)]
      exact ⟨(p6 p hpn).1, (p6 p hpn).2, (p5 p hp5).1⟩
    · rw [kAP _ _ (by decide) (by decide) (by decide)]
      refine ⟨(p5 t ht).2, ?_⟩
      show fJ6_bitCount_0f7a4 (nI 0) ≤ tk_crew (cq c t)
      rcases tk_crew12 (cq c t) with e | e <;> rw [e] <;> decide
    · rw [fin3]; exact p4 j a1 (by omega)
    · rw [fin3]; exact p4 13 (by omega) (by omega)
    · have hb : (2 ^ np - 1).testBit p = true := by
        rw [kb_powb np (by omega) p (by omega)]; exact decide_eq_true hpn
      show kA V 31 (3 * p) = (if (2 ^ np - 1).testBit p then _ else -1) ∧ kA V 31 (3 * p + 1) = (if (2 ^ np - 1).testBit p then _ else -1) ∧ kA V 31 (3 * p + 2) = (if (2 ^ np - 1).testBit p then _ else 0)
      rw [if_pos hb, if_pos hb, if_pos hb]
      exact v6 p hpn
    · have := (q5 t ht).2.2.2.2
      show (V.2.1 32).getD t 0 = _
      rw [v5]; exact this
    · exact j712 rfl rfl rfl rfl rfl rfl
    · have := of_decide_eq_true (h8 p (hbit p hp5 hb)).1
      exact ⟨_, by omega, rfl⟩
    · have := of_decide_eq_true (h8 p (hbit p hp5 hb)).2
      exact ⟨_, by omega, rfl⟩
    · have e6 : G2.1 0 6 = 0 := fa 0 6 (by decide)
      rw [e6] at h06
      exact absurd h06 (by decide)
  · have fY : G2.2.2 = G1.2.2 := v2.2.2.1
    have eY : kg_Y G2 = cYb (kg_Y G) c T np := (congrArg (fun z => z.2.2) fY).trans hYb
    unfold kj_b
    rw [eY, cYb_len, cYb_sl]
    omega
