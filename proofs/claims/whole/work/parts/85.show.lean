/-! SHOW: the class reads the bill and the people -/
theorem g_div2 : ∀ i, i < 40 → nI i / 2 = nI (i / 2) := by decide +kernel
theorem g_div5b : ∀ i, i < 40 → nI i / 5 = nI (i / 5) := by decide +kernel
theorem x_min5 {T : Nat} (h : T ≤ 5) : fJ9_min_7cf53 (nI T) 5 = nI T := by
  unfold fJ9_min_7cf53
  rw [if_neg]
  show ¬ nI 5 < nI T
  rw [kn_lt (by omega) (by omega)]; omega
/-- what is made by a show -/
def cY (Y : kv_H) (c : Nat → Nat) (T i : Nat) : kv_H := Y ++ (.inr (.inl (cws (Y.length + 46) T i)) :: ccs c i)
def cYb (Y : kv_H) (c : Nat → Nat) (T np : Nat) : kv_H := cY Y c T T ++ [.inr (.inr (0, [.ref (Y.length + 45), .int (nI np)]))]
theorem cY_len (Y : kv_H) (c : Nat → Nat) (T i : Nat) : (cY Y c T i).length = Y.length + 1 + i := by
  unfold cY
  rw [List.length_append, List.length_cons, ccs_len]; omega
theorem kg_yy (G : kg_G) (A B : kv_H) : kg_y (kg_y G A) B = kg_y G B := rfl
theorem x_readBill {G : kg_G} {c : Nat → Nat} {n te T np : Nat} (hs : jsh c te n T np) (hp : jpg G n c) (hte : jte c n = te) : fX2_readBill kN G = some ((kg_Y G).length + 46 + T, kg_y G (cYb (kg_Y G) c T np)) := by
  have hpc : ∀ i, i < n → c i < 127 ∧ kv_g (G.2.1 2) (nI i) = some (nI (c i)) := fun i hi => ⟨(hp.2.2.2 i hi).1, (hp.2.2.2 i hi).2.1⟩
  have hs' := hs
  obtain ⟨h1, h2, h3, h4, h5, h6, h7, h8⟩ := hs
  have hnr : kg_nr (fJ9_min_7cf53 ((nI te + 1) / 5) 5) = some T := by
    rw [kn_succ, g_div5b _ (by omega), show (te + 1) / 5 = T by omega, x_min5 h3]
    unfold kg_nr
    rw [if_neg (kn_neg (by omega)), kn_nat (by omega), if_pos (by omega)]
  obtain ⟨n', g, e1, e2⟩ := kl_inv (fun m g i => fX2_readBill_20 kN m g (nI te) ((kg_Y G).length + 45) i) (fun i g => g = kg_y G (cY (kg_Y G) c T i)) T (n := kN) (a := kg_y G (kg_Y G ++ [.inr (.inl (List.replicate T none))])) (by have := kN_gt; omega) (by
      rw [cws_0 ((kg_Y G).length + 46) T]; rfl) (by
    intro m g i hi e
    refine ⟨_, ?_, rfl⟩
    show fX2_readBill_20 kN (m + 1) g (nI te) ((kg_Y G).length + 45) (nI i) = fX2_readBill_20 kN m (kg_y G (cY (kg_Y G) c T (i + 1))) (nI te) ((kg_Y G).length + 45) (nI (i + 1))
    have gY : kg_Y (kg_y G (cY (kg_Y G) c T i)) = cY (kg_Y G) c T i := rfl
    have hta : kg_ta (cY (kg_Y G) c T i) ((kg_Y G).length + 45) = some (cws ((kg_Y G).length + 46) T i) := kg_ta_c _ (by omega) (by
      rw [Nat.add_sub_cancel]
      exact kc_at _ _ _)
    have hrt : fX2_readTrick kN (kg_y G (cY (kg_Y G) c T i)) (nI i * 5) = some ((cY (kg_Y G) c T i).length + 45, kg_y G (cY (kg_Y G) c T i ++ [ccell c i])) := x_readTrick (G := kg_y G (cY (kg_Y G) c T i)) hs' hpc hi
    have eap : cY (kg_Y G) c T i ++ [ccell c i] = kg_Y G ++ (.inr (.inl (cws ((kg_Y G).length + 46) T i)) :: ccs c (i + 1)) := by
      unfold cY
      rw [List.append_assoc, List.cons_append, ccs_s]
    have hta2 : kg_ta (cY (kg_Y G) c T i ++ [ccell c i]) ((kg_Y G).length + 45) = some (cws ((kg_Y G).length + 46) T i) := by
      rw [eap]
      exact kg_ta_c _ (by omega) (by
        rw [Nat.add_sub_cancel]
        exact kc_at _ _ _)
    have htr : kg_tr (cY (kg_Y G) c T i ++ [ccell c i]) ((cY (kg_Y G) c T i).length + 45) = some (cq c i) := by
      rw [eap]
      refine kg_tr_c _ (by omega) ?_
      rw [Nat.add_sub_cancel, cY_len, kc_at1, ccs_at c (by omega)]
    have htp : kg_tp (kg_y G (cY (kg_Y G) c T i ++ [ccell c i])) ((kg_Y G).length + 45) (nI i) ((cY (kg_Y G) c T i).length + 45) = some (kg_y G (cY (kg_Y G) c T (i + 1))) := by
      unfold kg_tp
      show ((kg_ta (cY (kg_Y G) c T i ++ [ccell c i]) ((kg_Y G).length + 45)).bind fun xs => (kg_tr (cY (kg_Y G) c T i ++ [ccell c i]) ((cY (kg_Y G) c T i).length + 45)).bind fun _ => if (kg_Y G).length + 45 < 45 then none else if nI i < 0 then none else if (nI i).toNatClampNeg < xs.length then some (kg_y G ((cY (kg_Y G) c T i ++ [ccell c i]).set ((kg_Y G).length + 45 - 45) (.inr (.inl (xs.set (nI i).toNatClampNeg (some ((cY (kg_Y G) c T i).length + 45))))))) else none) = _
      rw [hta2, Option.bind_some, htr, Option.bind_some, if_neg (by omega), if_neg (kn_neg (by omega)), kn_nat (by omega), cws_len, if_pos hi, Nat.add_sub_cancel, eap, kc_set, cY_len, show (kg_Y G).length + 1 + i + 45 = (kg_Y G).length + 46 + i by omega, cws_s hi]
      rfl
    rw [e, fX2_readBill_20, gY, hta, Option.bind_some, cws_len, if_neg (m_loop (by omega) hi), hrt, Option.bind_some]
    show (kg_tp (kg_y G (cY (kg_Y G) c T i ++ [ccell c i])) ((kg_Y G).length + 45) (nI i) ((cY (kg_Y G) c T i).length + 45)).bind _ = _
    rw [htp, Option.bind_some, kn_succ])
  unfold fX2_readBill
  rw [x_tricksEnd hp, Option.bind_some, hte, hnr, Option.bind_some]
  refine Eq.trans e1 ?_
  show fX2_readBill_20 kN (n' + 1) g (nI te) ((kg_Y G).length + 45) (nI T) = _
  have gY : kg_Y (kg_y G (cY (kg_Y G) c T T)) = cY (kg_Y G) c T T := rfl
  have hta : kg_ta (cY (kg_Y G) c T T) ((kg_Y G).length + 45) = some (cws ((kg_Y G).length + 46) T T) := kg_ta_c _ (by omega) (by
    rw [Nat.add_sub_cancel]
    exact kc_at _ _ _)
  have g1 : (kg_y G (cY (kg_Y G) c T T)).1 1 1 = nI n := hp.2.1
  have enp : fJ9_min_7cf53 (((nI n - nI te) - 1) / 2) 5 = nI np := by
    have ee : (nI n - nI te) - 1 = nI (n - te - 1) := by
      rw [kn_sub (by omega)]
      exact kn_sub (a := n - te) (b := 1) (by omega)
    rw [ee, g_div2 _ (by omega), show (n - te - 1) / 2 = np by omega, x_min5 h5]
  rw [e2, fX2_readBill_20, gY, hta, Option.bind_some, cws_len, if_pos (Int32.le_refl _), g1, enp, cY_len, show (kg_Y G).length + 1 + T + 45 = (kg_Y G).length + 46 + T by omega]
  rfl
theorem cYb_bl (Y : kv_H) (c : Nat → Nat) (T np : Nat) : kg_bl (cYb Y c T np) (Y.length + 46 + T) = some (Y.length + 45, nI np) := by
  refine kg_bl_c _ (by omega) ?_
  unfold cYb
  rw [List.getElem?_append_right (by rw [cY_len]; omega), cY_len, show Y.length + 46 + T - 45 - (Y.length + 1 + T) = 0 by omega]; rfl
theorem cYb_ta (Y : kv_H) (c : Nat → Nat) (T np : Nat) : kg_ta (cYb Y c T np) (Y.length + 45) = some (cws (Y.length + 46) T T) := by
  refine kg_ta_c _ (by omega) ?_
  unfold cYb
  rw [List.getElem?_append_left (by rw [cY_len]; omega), Nat.add_sub_cancel]
  exact kc_at _ _ _
theorem cYb_tr (Y : kv_H) (c : Nat → Nat) (T np : Nat) {i : Nat} (hi : i < T) : kg_tr (cYb Y c T np) (Y.length + 46 + i) = some (cq c i) := by
  refine kg_tr_c _ (by omega) ?_
  unfold cYb
  rw [List.getElem?_append_left (by rw [cY_len]; omega), show Y.length + 46 + i - 45 = Y.length + 1 + i by omega]
  unfold cY
  rw [kc_at1, ccs_at c hi]
theorem cYb_len (Y : kv_H) (c : Nat → Nat) (T np : Nat) : (cYb Y c T np).length = Y.length + 2 + T := by
  unfold cYb
  rw [List.length_append, cY_len]
  show Y.length + 1 + T + 1 = _
  omega
theorem kv_sl_apps : ∀ (h l : kv_H), kv_sl (h ++ l) = kv_sl h + kv_sl l
  | [], l => by rw [List.nil_append, kv_sl]; omega
  | x :: h, l => by rw [List.cons_append, kv_sl, kv_sl, kv_sl_apps h l]; omega
theorem ccs_sl (c : Nat → Nat) : ∀ i, kv_sl (ccs c i) = 3 * i
  | 0 => rfl
  | i + 1 => by
    rw [← ccs_s, kv_sl_app, ccs_sl c i]
    show 3 * i + 3 = _
    omega
theorem cYb_sl (Y : kv_H) (c : Nat → Nat) (T np : Nat) : kv_sl (cYb Y c T np) = kv_sl Y + 4 * T + 2 := by
  unfold cYb cY
  rw [kv_sl_app, kv_sl_apps, kv_sl, ccs_sl]
  show kv_sl Y + ((cws (Y.length + 46) T T).length + 3 * T) + 2 = _
  rw [cws_len]; omega
/-! the people -/
theorem kb_pow : ∀ p, p < 6 → (1 <<< (nI p &&& 31)) - (1 : Int32) = nI (2 ^ p - 1) := by decide +kernel
/-- what reading the people leaves alone -/
def sfp (G G2 : kg_G) : Prop := jLn G2 ∧ (∀ a j, a ≠ 3 → G2.1 a j = G.1 a j) ∧ G2.2.2 = G.2.2 ∧ ∀ a, a ≠ 4 → a ≠ 5 → a ≠ 6 → a ≠ 7 → G2.2.1 a = G.2.1 a
theorem sfp_i {G G2 : kg_G} (h : sfp G G2) (k : Nat) (v : Int32) : sfp G (kg_i G2 3 k v) := by
  refine ⟨h.1, fun a j ha => ?_, h.2.2.1, h.2.2.2⟩
  show (if a = 3 then _ else G2.1 a j) = _
  rw [if_neg ha]; exact h.2.1 a j ha
theorem sfp_a {G G2 : kg_G} (h : sfp G G2) {b : Nat} {xs : List Int32} (hb : b = 4 ∨ b = 5 ∨ b = 6 ∨ b = 7) (hx : xs.length = 5) : sfp G (kg_a G2 b xs) := by
  refine ⟨jLn_a h.1 (by rcases hb with e | e | e | e <;> rw [e] <;> exact hx), h.2.1, h.2.2.1, fun a h1 h2 h3 h4 => ?_⟩
  show (if a = b then xs else G2.2.1 a) = _
  rw [if_neg (by omega)]; exact h.2.2.2 a h1 h2 h3 h4
theorem x_startAnew {G : kg_G} (hL : jLn G) {np : Nat} (hnp : np ≤ 5) : ∃ G1, fX9_startAnew kN G (nI np) = some G1 ∧ sfp G G1 ∧ G1.1 3 6 = nI (2 ^ np - 1) ∧ (∀ j, 7 ≤ j → j ≤ 13 → G1.1 3 j = 0) ∧ (∀ p, p < 5 → kA G1 6 p = 0 ∧ kA G1 7 p = 0) := by
  have l6 : (G.2.1 6).length = 5 := hL 6 (by decide)
  have l7 : (G.2.1 7).length = 5 := hL 7 (by decide)
  have lk6 : (kmap (fun _ _ => 0) (jLen 6) (G.2.1 6)).length = 5 := by rw [kmap_len, l6]
  have lk7 : (kmap (fun _ _ => 0) (jLen 7) (G.2.1 7)).length = 5 := by rw [kmap_len, l7]
  have hL1 : jLn (kg_a G 6 (kmap (fun _ _ => 0) (jLen 6) (G.2.1 6))) := jLn_a hL lk6
  have g7 : (kg_a G 6 (kmap (fun _ _ => 0) (jLen 6) (G.2.1 6))).2.1 7 = G.2.1 7 := rfl
  have hsf : sfp G G := ⟨hL, fun _ _ _ => rfl, rfl, fun _ _ _ _ _ => rfl⟩
  refine ⟨_, ?_, sfp_i (sfp_i (sfp_i (sfp_i (sfp_i (sfp_i (sfp_i (sfp_i (sfp_a (sfp_a hsf (b := 6) (by omega) lk6) (b := 7) (by omega) lk7) 6 (nI (2 ^ np - 1))) 7 0) 8 0) 9 0) 10 0) 11 0) 12 0) 13 0, rfl, ?_, ?_⟩
  · unfold fX9_startAnew
    rw [x_fill kN_gt hL (by decide) (by decide), Option.bind_some, x_fill kN_gt hL1 (by decide) (by decide), Option.bind_some, g7, kb_pow np (by omega)]
  · exact j713 rfl rfl rfl rfl rfl rfl rfl
  · intro p hp
    refine ⟨?_, ?_⟩
    · show (kmap (fun _ _ => 0) 5 (G.2.1 6)).getD p 0 = 0
      rw [kmap_get _ _ 5 p (by omega), if_pos hp]
    · show (kmap (fun _ _ => 0) 5 (G.2.1 7)).getD p 0 = 0
      rw [kmap_get _ _ 5 p (by omega), if_pos hp]
theorem x_readPeople {G : kg_G} (hL : jLn G) {c : Nat → Nat} {n te T np : Nat} (hs : jsh c te n T np) (hp : jpg G n c) (hte : jte c n = te) : ∃ G1, fX2_readPeople kN G (nI np) = some G1 ∧ sfp G G1 ∧ G1.1 3 6 = nI (2 ^ np - 1) ∧ (∀ j, 7 ≤ j → j ≤ 13 → G1.1 3 j = 0) ∧ (∀ p, p < 5 → kA G1 6 p = 0 ∧ kA G1 7 p = 0) ∧ ∀ p, p < np → kA G1 4 p = nI (c (te + 1 + 2 * p) - 48) ∧ kA G1 5 p = nI (c (te + 2 + 2 * p) - 48) := by
  obtain ⟨h1, h2, h3, h4, h5, h6, h7, h8⟩ := hs
  obtain ⟨S, s1, s2, s3, s4, s5⟩ := x_startAnew hL h5
  obtain ⟨n', g, e1, g2, g3, g4, g5, g6⟩ := kl_inv (fun m g i => fX2_readPeople_15 kN m g (nI np) (nI (te + 1)) i) (fun i g => sfp G g ∧ (∀ j, g.1 3 j = S.1 3 j) ∧ g.2.1 6 = S.2.1 6 ∧ g.2.1 7 = S.2.1 7 ∧ ∀ p, p < i → kA g 4 p = nI (c (te + 1 + 2 * p) - 48) ∧ kA g 5 p = nI (c (te + 2 + 2 * p) - 48)) np (n := kN) (a := S) (by have := kN_gt; omega) ⟨s2, fun _ => rfl, rfl, rfl, fun p hp => by omega⟩ (by
    intro m g i hi ⟨g2, g3, g4, g5, g6⟩
    have l4 : (g.2.1 4).length = 5 := g2.1 4 (by decide)
    have l5 : (g.2.1 5).length = 5 := g2.1 5 (by decide)
    have d1 := of_decide_eq_true (h8 i hi).1
    have d2 := of_decide_eq_true (h8 i hi).2
    have pg : ∀ x, x < n → ∀ g' : kg_G, g'.2.1 2 = G.2.1 2 → kv_g (g'.2.1 2) (nI x) = some (nI (c x)) := fun x hx g' hg' => by rw [hg']; exact (hp.2.2.2 x hx).2.1
    have e2 : g.2.1 2 = G.2.1 2 := g2.2.2.2 2 (by decide) (by decide) (by decide) (by decide)
    refine ⟨kg_a (kg_a g 4 ((g.2.1 4).set i (nI (c (te + 1 + 2 * i) - 48)))) 5 ((g.2.1 5).set i (nI (c (te + 2 + 2 * i) - 48))), ?_, sfp_a (sfp_a g2 (b := 4) (by omega) (by rw [List.length_set, l4])) (b := 5) (by omega) (by rw [List.length_set, l5]), g3, g4, g5, fun p hp' => ?_⟩
    · show fX2_readPeople_15 kN (m + 1) g (nI np) (nI (te + 1)) (nI i) = fX2_readPeople_15 kN m _ (nI np) (nI (te + 1)) (nI (i + 1))
      rw [fX2_readPeople_15, if_neg (m_loop (by omega) hi), kn_2, kn_add, x_digitAt (c := c (te + 1 + 2 * i)) (by omega) (pg _ (by omega) g e2) (by omega), Option.bind_some, kn_p (by omega) (by omega), Option.bind_some, kn_succ, show te + 1 + 2 * i + 1 = te + 2 + 2 * i by omega, x_digitAt (c := c (te + 2 + 2 * i)) (by omega) (pg _ (by omega) (kg_a g 4 ((g.2.1 4).set i (nI (c (te + 1 + 2 * i) - 48)))) e2) (by omega), Option.bind_some, kn_p (by omega) (by omega), Option.bind_some, kn_succ]
    · show ((g.2.1 4).set i _).getD p 0 = _ ∧ ((g.2.1 5).set i _).getD p 0 = _
      rw [getD_set (by omega), getD_set (by omega)]
      by_cases e : p = i
      · rw [if_pos e, if_pos e, e]; exact ⟨rfl, rfl⟩
      · rw [if_neg e, if_neg e]; exact g6 p (by omega))
  refine ⟨g, ?_, g2, (g3 6).trans s3, fun j a b => (g3 j).trans (s4 j a b), fun p hp => ?_, g6⟩
  · unfold fX2_readPeople
    rw [x_tricksEnd hp, Option.bind_some, s1, Option.bind_some, hte, kn_succ]
    refine Eq.trans e1 ?_
    show fX2_readPeople_15 kN (n' + 1) g (nI np) (nI (te + 1)) (nI np) = _
    rw [fX2_readPeople_15, if_pos (Int32.le_refl _)]
  · have := s5 p hp
    unfold kA at this ⊢
    rw [g4, g5]; exact this
