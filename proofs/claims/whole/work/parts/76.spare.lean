/-! SPARE -/
theorem sV_mono {op op' : Nat → (Nat → Nat) → Nat → Bool} (h : ∀ t r i, i < 31 → op t r (i + 1) = true → op' t r (i + 1) = true) : ∀ (d t : Nat) (r : Nat → Nat), (sV op d t r).1 ≤ (sV op' d t r).1
  | 0, _, _ => Nat.le_refl _
  | d + 1, t, r => by
    have ih := fun s => sV_mono h d (t + 1) (su r t s)
    rw [sV, sV]
    have key : ∀ m, m ≤ 31 → (kfo (fun i b => if op t r (i + 1) then (if b.1 < (sV op d (t + 1) (su r t (i + 1))).1 + 1 then ((sV op d (t + 1) (su r t (i + 1))).1 + 1, (sV op d (t + 1) (su r t (i + 1))).2) else b) else b) m (sV op d (t + 1) (su r t 0))).1 ≤ (kfo (fun i b => if op' t r (i + 1) then (if b.1 < (sV op' d (t + 1) (su r t (i + 1))).1 + 1 then ((sV op' d (t + 1) (su r t (i + 1))).1 + 1, (sV op' d (t + 1) (su r t (i + 1))).2) else b) else b) m (sV op' d (t + 1) (su r t 0))).1 := by
      intro m
      induction m with
      | zero => intro _; exact ih 0
      | succ m im =>
        intro hm
        have im' := im (by omega)
        rw [kfo, kfo]
        have i1 := ih (m + 1)
        generalize kfo (fun i b => if op t r (i + 1) then (if b.1 < (sV op d (t + 1) (su r t (i + 1))).1 + 1 then ((sV op d (t + 1) (su r t (i + 1))).1 + 1, (sV op d (t + 1) (su r t (i + 1))).2) else b) else b) m (sV op d (t + 1) (su r t 0)) = A at im' ⊢
        generalize kfo (fun i b => if op' t r (i + 1) then (if b.1 < (sV op' d (t + 1) (su r t (i + 1))).1 + 1 then ((sV op' d (t + 1) (su r t (i + 1))).1 + 1, (sV op' d (t + 1) (su r t (i + 1))).2) else b) else b) m (sV op' d (t + 1) (su r t 0)) = B at im' ⊢
        generalize sV op d (t + 1) (su r t (m + 1)) = X at i1 ⊢
        generalize sV op' d (t + 1) (su r t (m + 1)) = Y at i1 ⊢
        have hB : B.1 ≤ (if op' t r (m + 1) then (if B.1 < Y.1 + 1 then (Y.1 + 1, Y.2) else B) else B).1 := by
          split
          · split
            · show B.1 ≤ Y.1 + 1
              omega
            · exact Nat.le_refl _
          · exact Nat.le_refl _
        by_cases z : op t r (m + 1) = true
        · rw [if_pos z, if_pos (h t r m (by omega) z)]
          by_cases y : B.1 < Y.1 + 1
          · rw [if_pos y]
            split
            · show X.1 + 1 ≤ Y.1 + 1
              omega
            · show A.1 ≤ Y.1 + 1
              omega
          · rw [if_neg y]
            split
            · show X.1 + 1 ≤ B.1
              omega
            · exact im'
        · rw [if_neg z]; exact Nat.le_trans im' hB
    exact key 31 (Nat.le_refl _)
theorem kb_sub2 : ∀ s, s < 32 → ∀ p, p < 32 → ∀ p2, p2 < 32 → p &&& p2 = p → s &&& (31 ^^^ p) = 0 → s &&& (31 ^^^ p2) = 0 := by
  intro s hs p hp p2 hp2 h1 h2
  have e1 := kb_away2 p hp s hs
  have e2 := kb_away2 p2 hp2 s hs
  rw [decide_eq_true h2] at e1
  have h3 := of_decide_eq_true e1.symm
  have h4 : s &&& p2 = s := by
    have : (s &&& p) &&& p2 = s &&& p := by rw [Nat.and_assoc, h1]
    rw [h3] at this; exact this
  rw [decide_eq_true h4] at e2
  exact of_decide_eq_true e2
theorem sB_mono {T : Nat} {q : Nat → tk_Q} {st : Nat → Int32} {p p2 : Nat} (hp : p < 32) (hp2 : p2 < 32) (h : p &&& p2 = p) : (sB T q st p).1 ≤ (sB T q st p2).1 := by
  unfold sB
  refine sV_mono (fun t r i hi ho => ?_) T 0 _
  unfold sop sway at ho ⊢
  simp only [Bool.and_eq_true, decide_eq_true_eq] at ho ⊢
  exact ⟨⟨ho.1.1, ho.1.2.1, kb_sub2 (i + 1) (by omega) p hp p2 hp2 h ho.1.2.2⟩, ho.2⟩
theorem kb_m1 : ∀ m, m < 6 → nI m - 1 = iI ((m : Int) - 1) := by decide +kernel
/-- whether one can be spared -/
def jsp (T : Nat) (q : Nat → tk_Q) (D : jD) (i : Nat) : Bool := (jk D).testBit i && decide ((sB T q (jst D) (jk D &&& (31 - 2 ^ i))).1 = (sB T q (jst D) (jk D)).1)
theorem kb_and_k : ∀ m, m < 32 → ∀ p, p < 5 → (m &&& (31 - 2 ^ p)) &&& m = m &&& (31 - 2 ^ p) := by decide +kernel
section SP
variable {N : Nat} {G : kg_G} {T np : Nat} {q : Nat → tk_Q} {D : jD}
theorem x_sparedOf {P : kg_G} (hN : 100 < N) (hL : jLn P) (st : Nat → Int32) (h : kpq P T q st) (hk : jk D < 32) (hst : ∀ i, i < 5 → (jk D).testBit i = true → st i = jst D i) : ∃ S, fX4_sparedOf N P (nI (jk D)) = some (nI (kset (jsp T q D) 5), S) ∧ kst P S := by
  have hT := h.2.1
  have ec : ∀ p, p < 32 → p &&& jk D = p → sB T q st p = sB T q (jst D) p := fun p hp hpk => sB_congr hp (fun i hi hb => hst i hi ((kb_andb p hp _ hk).mp hpk i hi hb))
  obtain ⟨S0, s1, s2, s3⟩ := x_searchS hN hL h (kst_self hL) hk (fl := -1) ⟨by decide, by decide⟩
  have es : svis (-1, fun _ => 0) (((sB T q (jst D) (jk D)).1 : Int), (sB T q (jst D) (jk D)).2) = (((sB T q (jst D) (jk D)).1 : Int), (sB T q (jst D) (jk D)).2) := by
    unfold svis
    rw [if_pos (by show (-1 : Int) < ((sB T q (jst D) (jk D)).1 : Int); omega)]
  rw [ec _ hk (Nat.and_self _), es] at s1
  have hM5 := sB_le (T := T) (q := q) (st := jst D) (p := jk D)
  obtain ⟨M, hMd⟩ : ∃ M, M = (sB T q (jst D) (jk D)).1 := ⟨_, rfl⟩
  rw [← hMd] at hM5
  have s1' : fX4_search N P (nI (jk D)) (-1) = some (nI M, S0) := by rw [hMd]; exact s1
  obtain ⟨n', a', e1, e2, e3⟩ := kl_inv (fun n (a : kg_G × Int32) i => fX4_sparedOf_12 N n a.1 (nI (jk D)) (nI M) a.2 i) (fun j a => kst P a.1 ∧ a.2 = nI (kset (jsp T q D) j)) 5 (n := N) (a := (S0, 0)) (by omega) ⟨s2, rfl⟩ (by
    intro n a j hj ⟨a1, a2⟩
    have q1 : ¬ (5 : Int32) ≤ nI j := m_loop (m := 5) (by omega) hj
    have ks := kset_step (jsp T q D) hj
    by_cases z : (jk D).testBit j = true
    · have hka := kb_and _ hk j hj
      obtain ⟨S1, t1, t2, _⟩ := x_searchS hN hL h a1 hka.2 (fl := (M : Int) - 1) ⟨by omega, by omega⟩
      rw [ec _ hka.2 (kb_and_k _ hk j hj)] at t1
      have hMi : (sB T q (jst D) (jk D &&& (31 - 2 ^ j))).1 ≤ M := by rw [hMd]; exact sB_mono hka.2 hk (kb_and_k _ hk j hj)
      have ejs : jsp T q D j = decide ((sB T q (jst D) (jk D &&& (31 - 2 ^ j))).1 = M) := by
        unfold jsp
        rw [z, Bool.true_and, hMd]
      refine ⟨(S1, nI (kset (jsp T q D) (j + 1))), ?_, t2, rfl⟩
      show fX4_sparedOf_12 N (n + 1) a.1 (nI (jk D)) (nI M) a.2 (nI j) = fX4_sparedOf_12 N n S1 (nI (jk D)) (nI M) (nI (kset (jsp T q D) (j + 1))) (nI (j + 1))
      rw [fX4_sparedOf_12, if_neg q1, kb_has _ hk j hj, if_pos z, if_neg (by decide), hka.1, kb_m1 M (by omega), t1, Option.bind_some, a2, kn_succ, ← ks]
      by_cases y : (sB T q (jst D) (jk D &&& (31 - 2 ^ j))).1 = M
      · have ev : iI (svis ((M : Int) - 1, fun _ => 0) (((sB T q (jst D) (jk D &&& (31 - 2 ^ j))).1 : Int), (sB T q (jst D) (jk D &&& (31 - 2 ^ j))).2)).1 = nI M := by
          unfold svis
          rw [if_pos (by show (M : Int) - 1 < ((sB T q (jst D) (jk D &&& (31 - 2 ^ j))).1 : Int); omega)]
          show iI ((sB T q (jst D) (jk D &&& (31 - 2 ^ j))).1 : Int) = _
          rw [y]; rfl
        rw [ev, if_neg (show ¬ nI M < nI M by rw [kn_lt (by omega) (by omega)]; omega), ejs, decide_eq_true y, if_pos rfl]
      · have ev : iI (svis ((M : Int) - 1, fun _ => 0) (((sB T q (jst D) (jk D &&& (31 - 2 ^ j))).1 : Int), (sB T q (jst D) (jk D &&& (31 - 2 ^ j))).2)).1 = iI ((M : Int) - 1) := by
          unfold svis
          rw [if_neg (by show ¬ (M : Int) - 1 < ((sB T q (jst D) (jk D &&& (31 - 2 ^ j))).1 : Int); omega)]
        have lt : iI ((M : Int) - 1) < nI M := by
          rw [← iI_nat, iI_lt (by omega) (by omega)]; omega
        rw [ev, if_pos lt, ejs, decide_eq_false y, if_neg (by decide)]
    · refine ⟨(a.1, nI (kset (jsp T q D) (j + 1))), ?_, a1, rfl⟩
      show fX4_sparedOf_12 N (n + 1) a.1 (nI (jk D)) (nI M) a.2 (nI j) = fX4_sparedOf_12 N n a.1 (nI (jk D)) (nI M) (nI (kset (jsp T q D) (j + 1))) (nI (j + 1))
      have ejs : jsp T q D j = false := by
        unfold jsp
        cases w : (jk D).testBit j
        · rfl
        · exact absurd w z
      rw [fX4_sparedOf_12, if_neg q1, kb_has _ hk j hj, if_neg z, if_pos rfl, a2, kn_succ, ← ks, ejs, if_neg (by decide)])
  refine ⟨a'.1, ?_, e2⟩
  unfold fX4_sparedOf
  rw [s1', Option.bind_some]
  refine Eq.trans e1 ?_
  show fX4_sparedOf_12 N (n' + 1) a'.1 (nI (jk D)) (nI M) a'.2 (nI 5) = _
  rw [fX4_sparedOf_12, if_pos (by decide), e3]
theorem m_spareOf (h : jM N G T np q D) (hB : 10000000 < N) : ∃ G2, fX11_spareOf N G = some (nI (kset (jsp T q D) 5), G2) ∧ mfr G G2 := by
  have hN := h.2.2.2.2.2
  have h5 := h.2.1.2.1
  have hU := h.2.1
  have hV := h.2.2.2.2.1
  have hk := jk32 hV hU
  obtain ⟨G1, s1, s2, _⟩ := m_layMost h hB hk (Nat.and_self _)
  have hM5 := sB_le (T := T) (q := q) (st := jst D) (p := jk D)
  have hT := hU.1
  obtain ⟨M, hMd⟩ : ∃ M, M = (sB T q (jst D) (jk D)).1 := ⟨_, rfl⟩
  rw [← hMd] at hM5 s1
  obtain ⟨n', a', e1, e2, e3⟩ := kl_inv (fun n (a : kg_G × Int32) i => fX11_spareOf_16 N n a.1 (nI (jk D)) (nI M) a.2 i) (fun j a => mfr G a.1 ∧ a.2 = nI (kset (jsp T q D) j)) np (n := N) (a := (G1, 0)) (by omega) ⟨s2, rfl⟩ (by
    intro n a j hj ⟨a1, a2⟩
    have hMa := mfr_M h a1
    have ks := kset_step (jsp T q D) (show j < 5 by omega)
    have e4 : a.1.1 28 4 = nI np := m_np hMa
    by_cases z : (jk D).testBit j = true
    · have hka := kb_and _ hk j (by omega)
      have hkk := kb_and_k _ hk j (show j < 5 by omega)
      have hkj : (jk D &&& (31 - 2 ^ j)) &&& jk D = jk D &&& (31 - 2 ^ j) := hkk
      obtain ⟨G3, t1, t2, _⟩ := m_layMost hMa hB hka.2 hkj
      have hMi : (sB T q (jst D) (jk D &&& (31 - 2 ^ j))).1 ≤ M := by rw [hMd]; exact sB_mono hka.2 hk hkj
      have ejs : jsp T q D j = decide ((sB T q (jst D) (jk D &&& (31 - 2 ^ j))).1 = M) := by
        unfold jsp
        rw [z, Bool.true_and, hMd]
      refine ⟨(G3, nI (kset (jsp T q D) (j + 1))), ?_, mfr_trans a1 t2, rfl⟩
      show fX11_spareOf_16 N (n + 1) a.1 (nI (jk D)) (nI M) a.2 (nI j) = fX11_spareOf_16 N n G3 (nI (jk D)) (nI M) (nI (kset (jsp T q D) (j + 1))) (nI (j + 1))
      have eq := kn_eq (a := (sB T q (jst D) (jk D &&& (31 - 2 ^ j))).1) (b := M) (by omega) (by omega)
      rw [fX11_spareOf_16, e4, if_neg (m_loop (by omega) hj), m_isKept hMa hj, Option.bind_some, if_pos z, if_neg (by decide), hka.1, t1, Option.bind_some]
      unfold fX11_spareOf_54 fX11_spareOf_55
      rw [a2, kn_succ, i_or0, ← ks, ejs]
      by_cases y : (sB T q (jst D) (jk D &&& (31 - 2 ^ j))).1 = M
      · rw [if_pos (by show nI (sB T q (jst D) (jk D &&& (31 - 2 ^ j))).1 = nI M; rw [y]), if_neg (by decide), decide_eq_true y, if_pos rfl]
      · rw [if_neg (by show ¬ nI (sB T q (jst D) (jk D &&& (31 - 2 ^ j))).1 = nI M; rw [eq]; exact y), if_pos rfl, decide_eq_false y, if_neg (by decide)]
    · refine ⟨(a.1, nI (kset (jsp T q D) (j + 1))), ?_, a1, rfl⟩
      show fX11_spareOf_16 N (n + 1) a.1 (nI (jk D)) (nI M) a.2 (nI j) = fX11_spareOf_16 N n a.1 (nI (jk D)) (nI M) (nI (kset (jsp T q D) (j + 1))) (nI (j + 1))
      have ejs : jsp T q D j = false := by
        unfold jsp
        cases w : (jk D).testBit j
        · rfl
        · exact absurd w z
      rw [fX11_spareOf_16, e4, if_neg (m_loop (by omega) hj), m_isKept hMa hj, Option.bind_some, if_neg z, if_pos rfl]
      unfold fX11_spareOf_54 fX11_spareOf_55
      rw [if_pos rfl, a2, kn_succ, i_or0, ← ks, ejs, if_neg (by decide)])
  have ex : kset (jsp T q D) 5 = kset (jsp T q D) np := kset_ext h5 (fun j h1 h2 => by
    unfold jsp
    rw [jk_hi hV hU h1 h2]; rfl)
  refine ⟨a'.1, ?_, e2⟩
  unfold fX11_spareOf
  rw [m_keptSet h, Option.bind_some, s1, Option.bind_some]
  refine Eq.trans e1 ?_
  show fX11_spareOf_16 N (n' + 1) a'.1 (nI (jk D)) (nI M) a'.2 (nI np) = _
  have e4 : a'.1.1 28 4 = nI np := m_np (mfr_M h e2)
  rw [fX11_spareOf_16, e4, if_pos (Int32.le_refl _), e3, ex]
end SP
theorem jN_spare {k : Nat} {G : kg_G} {a : Nat} (hN : jN k G) (ha : a < 6) : jN k (kg_i (kg_i G 0 10 (nI (a + 1))) 28 22 (nI (a + 1))) := by
  obtain ⟨n3, n4, n5, n6⟩ := hN
  exact ⟨n3, n4, n5, ⟨a + 1, by omega, rfl, rfl⟩⟩
/-- the reference's state after the class's planning, its count set -/
theorem jM_plan {N : Nat} {G G1 : kg_G} {T np : Nat} {q : Nat → tk_Q} {D : jD} (h : jM N G T np q D) {c e : Nat} {v w : Int32} (hc : c = 0) (h1 : xfr (kg_i G c e v) G1) {y : Nat} (hy : y = 15 ∨ y = 21 ∨ y = 22) : jM N (kg_i G1 28 y w) T np q D ∧ jM N G1 T np q D ∧ ∀ j, G1.1 28 j = G.1 28 j := by
  subst hc
  have f28 : ∀ j, G1.1 28 j = G.1 28 j := fun j => h1.2.1 28 j (by decide)
  have far : ∀ a, a ∈ [30, 31, 32, 38] → G1.2.1 a = G.2.1 a := fun a ha => by
    have ha' : a = 30 ∨ a = 31 ∨ a = 32 ∨ a = 38 := by simpa using ha
    exact h1.2.2.2 a (by omega)
  refine ⟨jM_of2 h h1.1 (fun j h1 h2 h3 => ?_) far, jM_of2 h h1.1 (fun j _ _ _ => f28 j) far, f28⟩
  show (if j = y then _ else G1.1 28 j) = _
  rw [if_neg (by omega), f28]
theorem op_spare : kj_op jJ (fun G => kjx_spare G) (fun G => kjm_spare G) := by
  intro k G hk hJ
  have hJ' := hJ
  obtain ⟨hL, hP, hA, hN, T, np, q, D, hU, hB, hR, hC, hM, hV, hK⟩ := hJ
  have hX' : jX kN G T np q D := ⟨hL, hU, hB, hC, hV, kN_gt⟩
  have hM' : jM kN G T np q D := ⟨hL, hU, hR, hM, hV, kN_gt⟩
  have h5 := hU.1
  obtain ⟨_, _, _, ⟨a, ha, ha1, ha2⟩⟩ := id hN
  by_cases hT : T = 0
  · refine ⟨-103, G, G, ?_, ?_, jJ_m k G hJ', kj_refl _⟩
    · show fX10_spare kN G = _
      unfold fX10_spare
      rw [x_hasShow hX', if_pos hT]; rfl
    · show fX11_spare kN G = _
      unfold fX11_spare
      rw [m_lacks hM', if_pos hT]; rfl
  have elt : (nI a < (6 : Int32)) = (a < 6) := kn_lt (a := a) (b := 6) (by omega) (by omega)
  have eeq : (nI a = (6 : Int32)) = (a = 6) := kn_eq (a := a) (b := 6) (by omega) (by omega)
  by_cases h16 : a = 6
  · refine ⟨-103, G, G, ?_, ?_, jJ_m k G hJ', kj_refl _⟩
    · show fX10_spare kN G = _
      unfold fX10_spare
      rw [x_hasShow hX', if_neg hT, Option.bind_some, if_neg (by decide), ha1, if_neg (by rw [elt]; omega)]
    · show fX11_spare kN G = _
      unfold fX11_spare
      rw [m_lacks hM', if_neg hT, if_pos rfl, ha2, if_pos (by rw [eeq]; exact h16)]
  have hk32 := jk32 hV hU
  have h8 : jX kN (kg_i G 0 10 (nI (a + 1))) T np q D := jX_of hX' hL (fun _ => rfl) (fun _ _ _ => rfl) rfl
  obtain ⟨P, p1, p2, p3, p4, p5⟩ := x_prep2 h8 hA
  obtain ⟨S, s1, s2⟩ := x_sparedOf (D := D) kN_gt p3 _ p2 hk32 (fun i hi hb => (hC.2.1 i hi hb).1)
  obtain ⟨aw, v, xs, ys, hx, hy, rfl⟩ := s2
  have b2 := p4 aw v xs ys hx hy
  obtain ⟨c1, c2, f28⟩ := jM_plan (w := nI (a + 1)) hM' rfl b2 (y := 22) (by omega)
  obtain ⟨G2, d1, d2⟩ := m_spareOf c1 kN_big
  have hp := pfr_of b2 d2
  have hpl : jJ (k + 1) G2 := jJ_plan (x := 10) (y := 22) (v := nI (a + 1)) hP hA hU hB hR hC hM hV hK (Or.inr (Or.inr ⟨rfl, rfl⟩)) (jN_spare hN (by omega)) hp.1 hp.2.1 hp.2.2.1 (fun x h1 h2 _ _ => hp.2.2.2 x h1 h2) (jcs D) (fun t ht => by
    have := hC.2.2.1 t ht
    unfold kA at this ⊢
    rw [hp.2.2.2 7 (by omega) (by omega)]; exact this) (fun t ht => by
    have := hM.2.1 t ht
    unfold kA at this ⊢
    rw [hp.2.2.2 32 (by omega) (by omega)]; exact this) hV.2.2.1
  have hkj : kj_b G G2 := by
    unfold kj_b kg_Y
    rw [hp.2.2.1]; exact ⟨Nat.le_add_right _ _, Nat.le_add_right _ _⟩
  have e36 : P.1 3 6 = nI (jk D) := (p5.2.1 3 6 (by decide)).trans hC.1
  have p1' : fX4_prepare kN (kg_i G 0 10 (nI (a + 1))) G.2.2.2.1 = some P := p1
  refine ⟨nI (kset (jsp T q D) 5), ks P aw v xs ys, G2, ?_, ?_, hpl, hkj⟩
  · show fX10_spare kN G = _
    unfold fX10_spare
    rw [x_hasShow hX', if_neg hT, Option.bind_some, if_neg (by decide), ha1, if_pos (by rw [elt]; omega), kn_succ, p1', Option.bind_some, e36, s1, Option.bind_some]
  · show fX11_spare kN _ = _
    unfold fX11_spare
    rw [m_lacks c2, if_neg hT, if_pos rfl, f28, ha2, if_neg (by rw [eeq]; exact h16), kn_succ, d1, Option.bind_some]
