/-! FEWEST -/
def bc (s : Nat) : Nat := (fJ6_bitCount_0f7a4 (nI s)).toNatClampNeg
theorem bc_eq : ∀ s, s < 32 → fJ6_bitCount_0f7a4 (nI s) = nI (bc s) ∧ bc s ≤ 5 ∧ (1 ≤ s → 1 ≤ bc s) := by decide +kernel
/-- a set that can do all -/
def sgd (T : Nat) (q : Nat → tk_Q) (D : jD) (s : Nat) : Prop := s &&& jk D = s ∧ (sB T q (jst D) s).1 = T
/-- the least of the smallest below m -/
def smn (good : Nat → Prop) (m x : Nat) : Prop := x < m ∧ good x ∧ ∀ y, y < m → good y → bc x < bc y ∨ (bc x = bc y ∧ x ≤ y)
theorem smn_eq {good : Nat → Prop} {m x x' : Nat} (h : smn good m x) (h' : smn good m x') : x = x' := by
  have h1 := h.2.2 x' h'.1 h'.2.1
  have h2 := h'.2.2 x h.1 h.2.1
  omega
theorem sB_none {T : Nat} {q : Nat → tk_Q} {st : Nat → Int32} : (sB T q st 0).1 = 0 := by
  unfold sB
  have := sV_mono (op := sop (sway T q st (31 ^^^ 0)) (scl T q)) (op' := fun _ _ _ => false) (fun t r i hi ho => by
    unfold sop sway at ho
    simp only [Bool.and_eq_true, decide_eq_true_eq] at ho
    have h1 := kb_away2 0 (by omega) (i + 1) (by omega)
    rw [decide_eq_true ho.1.2.2] at h1
    have h2 := of_decide_eq_true h1.symm
    rw [Nat.and_zero] at h2
    omega) T 0 (fun _ => 0)
  have h0 := sV_none (op := fun _ _ _ => false) T 0 (fun _ => 0) (fun _ _ _ _ => rfl) (fun _ _ => rfl)
  rw [h0] at this
  exact Nat.le_zero.mp this
theorem kb_and32 : ∀ s, s < 32 → ∀ k, k < 32 → s &&& k = s → s < 32 := fun s h _ _ _ => h
section FW
variable {N : Nat} {G : kg_G} {T np : Nat} {q : Nat → tk_Q} {D : jD}
theorem x_fsearch {P S : kg_G} (hN : 100 < N) (hL : jLn P) {st : Nat → Int32} (h : kpq P T q st) (hk : jk D < 32) (hst : ∀ i, i < 5 → (jk D).testBit i = true → st i = jst D i) (hT0 : 0 < T) (hS : kst P S) {s : Nat} (hs : s < 32) (hsk : s &&& jk D = s) : ∃ S', kst P S' ∧ S'.1 17 5 = nI T ∧ ((sgd T q D s ∧ fX4_search N S (nI s) ((S.1 17 5) - 1) = some (nI T, S')) ∨ (¬ sgd T q D s ∧ fX4_search N S (nI s) ((S.1 17 5) - 1) = some (iI ((T : Int) - 1), S'))) := by
  have hT := h.2.1
  have g5 : S.1 17 5 = nI T := by
    obtain ⟨aw, v, xs, ys, hx, hy, rfl⟩ := hS
    exact h.1
  have ec : sB T q st s = sB T q (jst D) s := sB_congr hs (fun i hi hb => hst i hi ((kb_andb s hs _ hk).mp hsk i hi hb))
  obtain ⟨S1, t1, t2, _⟩ := x_searchS hN hL h hS hs (fl := (T : Int) - 1) ⟨by omega, by omega⟩
  rw [ec] at t1
  have hle := sB_le (T := T) (q := q) (st := jst D) (p := s)
  have g5' : S1.1 17 5 = nI T := by
    obtain ⟨aw, v, xs, ys, hx, hy, rfl⟩ := t2
    exact h.1
  refine ⟨S1, t2, g5', ?_⟩
  rw [g5, kb_m1 T (by omega), t1]
  by_cases z : (sB T q (jst D) s).1 = T
  · left
    refine ⟨⟨hsk, z⟩, ?_⟩
    have ev : iI (svis ((T : Int) - 1, fun _ => 0) (((sB T q (jst D) s).1 : Int), (sB T q (jst D) s).2)).1 = nI T := by
      unfold svis
      rw [if_pos (by show (T : Int) - 1 < ((sB T q (jst D) s).1 : Int); omega)]
      show iI ((sB T q (jst D) s).1 : Int) = _
      rw [z]; rfl
    rw [ev]
  · right
    refine ⟨fun w => z w.2, ?_⟩
    have ev : iI (svis ((T : Int) - 1, fun _ => 0) (((sB T q (jst D) s).1 : Int), (sB T q (jst D) s).2)).1 = iI ((T : Int) - 1) := by
      unfold svis
      rw [if_neg (by show ¬ (T : Int) - 1 < ((sB T q (jst D) s).1 : Int); omega)]
    rw [ev]
theorem x_few29 {P : kg_G} (hN : 100 < N) (hL : jLn P) {st : Nat → Int32} (h : kpq P T q st) (hk : jk D < 32) (hst : ∀ i, i < 5 → (jk D).testBit i = true → st i = jst D i) (hT0 : 0 < T) {z : Nat} (hz : z ≤ 5) (k22 : kg_G → Int32 → Int32 → Option (Int32 × kg_G)) : ∀ (d i n : Nat) (S : kg_G), i + d = 32 → 1 ≤ i → d < n → kst P S → (∀ y, 1 ≤ y → y < i → sgd T q D y → bc y ≠ z) → ∃ S', kst P S' ∧ ((∃ x, 1 ≤ x ∧ x < 32 ∧ sgd T q D x ∧ bc x = z ∧ (∀ y, 1 ≤ y → y < x → sgd T q D y → bc y ≠ z) ∧ fX4_fewestOf_29 N k22 n S (nI (jk D)) (nI z) (nI i) = some (nI x, S')) ∨ ((∀ y, 1 ≤ y → y < 32 → sgd T q D y → bc y ≠ z) ∧ fX4_fewestOf_29 N k22 n S (nI (jk D)) (nI z) (nI i) = k22 S' (nI (jk D)) (nI (z + 1))))
  | 0, i, n, S, hi, hi1, hn, hS, hb => by
    obtain ⟨n, rfl⟩ : ∃ n', n = n' + 1 := ⟨n - 1, by omega⟩
    have : i = 32 := by omega
    subst this
    refine ⟨S, hS, Or.inr ⟨hb, ?_⟩⟩
    rw [fX4_fewestOf_29, if_pos (by decide), kn_succ]
  | d + 1, i, n, S, hi, hi1, hn, hS, hb => by
    obtain ⟨n, rfl⟩ : ∃ n', n = n' + 1 := ⟨n - 1, by omega⟩
    have hi32 : i < 32 := by omega
    have q1 : ¬ (32 : Int32) ≤ nI i := m_loop (m := 32) (by omega) hi32
    have hT := h.2.1
    have eout := kb_out i hi32 _ hk
    have hbc := bc_eq i hi32
    have ebc : (fJ6_bitCount_0f7a4 (nI i) = nI z) = (bc i = z) := by
      rw [hbc.1]; exact kn_eq (by omega) (by omega)
    -- passing on
    have pass : ∀ S1, kst P S1 → ¬ (sgd T q D i ∧ bc i = z) → fX4_fewestOf_29 N k22 (n + 1) S (nI (jk D)) (nI z) (nI i) = fX4_fewestOf_29 N k22 n S1 (nI (jk D)) (nI z) (nI (i + 1)) → ∃ S', kst P S' ∧ ((∃ x, 1 ≤ x ∧ x < 32 ∧ sgd T q D x ∧ bc x = z ∧ (∀ y, 1 ≤ y → y < x → sgd T q D y → bc y ≠ z) ∧ fX4_fewestOf_29 N k22 (n + 1) S (nI (jk D)) (nI z) (nI i) = some (nI x, S')) ∨ ((∀ y, 1 ≤ y → y < 32 → sgd T q D y → bc y ≠ z) ∧ fX4_fewestOf_29 N k22 (n + 1) S (nI (jk D)) (nI z) (nI i) = k22 S' (nI (jk D)) (nI (z + 1)))) := by
      intro S1 hS1 hno e
      rw [e]
      refine x_few29 hN hL h hk hst hT0 hz k22 d (i + 1) n S1 (by omega) (by omega) (by omega) hS1 (fun y h1 h2 hg => ?_)
      by_cases w : y = i
      · rw [w] at hg ⊢
        exact fun x => hno ⟨hg, x⟩
      · exact hb y h1 (by omega) hg
    by_cases c1 : i &&& jk D = i
    · by_cases c2 : bc i = z
      · obtain ⟨S1, t1, t2, t3⟩ := x_fsearch hN hL h hk hst hT0 hS hi32 c1
        have base : fX4_fewestOf_29 N k22 (n + 1) S (nI (jk D)) (nI z) (nI i) = (fX4_search N S (nI i) ((S.1 17 5) - 1)).bind fun v1 => if v1.1 < (v1.2.1 17 5) then fX4_fewestOf_29 N k22 n v1.2 (nI (jk D)) (nI z) (nI i + 1) else some (nI i, v1.2) := by
          rw [fX4_fewestOf_29, if_neg q1, if_pos (eout.mpr c1), if_pos (by rw [ebc]; exact c2)]
          unfold fX4_fewestOf_56
          rw [if_neg (by decide)]
        rcases t3 with ⟨g, e⟩ | ⟨g, e⟩
        · refine ⟨S1, t1, Or.inl ⟨i, hi1, hi32, g, c2, fun y h1 h2 hg => hb y h1 h2 hg, ?_⟩⟩
          rw [base, e, Option.bind_some]
          show (if nI T < S1.1 17 5 then _ else some (nI i, S1)) = _
          rw [t2, if_neg (by rw [kn_lt (by omega) (by omega)]; omega)]
        · refine pass S1 t1 (fun w => g w.1) ?_
          rw [base, e, Option.bind_some]
          show (if iI ((T : Int) - 1) < S1.1 17 5 then fX4_fewestOf_29 N k22 n S1 (nI (jk D)) (nI z) (nI i + 1) else some (nI i, S1)) = _
          rw [t2, if_pos (by rw [← iI_nat, iI_lt (by omega) (by omega)]; omega), kn_succ]
      · refine pass S hS (fun w => c2 w.2) ?_
        rw [fX4_fewestOf_29, if_neg q1, if_pos (eout.mpr c1), if_neg (by rw [ebc]; exact c2)]
        unfold fX4_fewestOf_55 fX4_fewestOf_56
        rw [if_pos rfl, kn_succ]
    · refine pass S hS (fun w => c1 w.1.1) ?_
      rw [fX4_fewestOf_29, if_neg q1, if_neg (fun w => c1 (eout.mp w))]
      unfold fX4_fewestOf_55 fX4_fewestOf_56
      rw [if_pos rfl, kn_succ]
theorem x_few22 {P : kg_G} (hN : 100 < N) (hL : jLn P) {st : Nat → Int32} (h : kpq P T q st) (hk : jk D < 32) (hst : ∀ i, i < 5 → (jk D).testBit i = true → st i = jst D i) (hT0 : 0 < T) : ∀ (d z n : Nat) (S : kg_G), z + d = 6 → 1 ≤ z → d < n → kst P S → (∀ y, 1 ≤ y → y < 32 → sgd T q D y → z ≤ bc y) → ∃ S', kst P S' ∧ ((∃ x, smn (sgd T q D) 32 x ∧ fX4_fewestOf_22 N n S (nI (jk D)) (nI z) = some (nI x, S')) ∨ ((∀ y, y < 32 → ¬ sgd T q D y) ∧ fX4_fewestOf_22 N n S (nI (jk D)) (nI z) = some (-1, S')))
  | 0, z, n, S, hz, hz1, hn, hS, hb => by
    obtain ⟨n, rfl⟩ : ∃ n', n = n' + 1 := ⟨n - 1, by omega⟩
    have : z = 6 := by omega
    subst this
    refine ⟨S, hS, Or.inr ⟨fun y hy hg => ?_, ?_⟩⟩
    · have hbc := bc_eq y hy
      by_cases w : 1 ≤ y
      · have := hb y w hy hg
        omega
      · have y0 : y = 0 := by omega
        rw [y0] at hg
        have := hg.2
        rw [sB_none] at this
        omega
    · rw [fX4_fewestOf_22, if_pos (by decide)]
  | d + 1, z, n, S, hz, hz1, hn, hS, hb => by
    obtain ⟨n, rfl⟩ : ∃ n', n = n' + 1 := ⟨n - 1, by omega⟩
    have q1 : ¬ (5 : Int32) < nI z := by
      show ¬ nI 5 < nI z
      rw [kn_lt (by omega) (by omega)]; omega
    obtain ⟨S1, t1, t2⟩ := x_few29 hN hL h hk hst hT0 (z := z) (by omega) (fX4_fewestOf_22 N n) 31 1 N S (by omega) (Nat.le_refl 1) (by omega) hS (fun y h1 h2 => by omega)
    rcases t2 with ⟨x, x1, x2, x3, x4, x5, x6⟩ | ⟨y1, y2⟩
    · refine ⟨S1, t1, Or.inl ⟨x, ⟨x2, x3, fun y hy hg => ?_⟩, ?_⟩⟩
      · by_cases w : 1 ≤ y
        · have := hb y w hy hg
          by_cases u : bc y = z
          · right
            refine ⟨by omega, ?_⟩
            cases Nat.lt_or_ge y x with
            | inl v => exact absurd u (x5 y w v hg)
            | inr v => exact v
          · left; omega
        · have y0 : y = 0 := by omega
          rw [y0] at hg
          have := hg.2
          rw [sB_none] at this
          omega
      · rw [fX4_fewestOf_22, if_neg q1]
        exact x6
    · obtain ⟨S2, r1, r2⟩ := x_few22 hN hL h hk hst hT0 d (z + 1) n S1 (by omega) (by omega) (by omega) t1 (fun y h1 h2 hg => by
        have := hb y h1 h2 hg
        have := y1 y h1 h2 hg
        omega)
      refine ⟨S2, r1, ?_⟩
      have e : fX4_fewestOf_22 N (n + 1) S (nI (jk D)) (nI z) = fX4_fewestOf_22 N n S1 (nI (jk D)) (nI (z + 1)) := by
        rw [fX4_fewestOf_22, if_neg q1]
        exact y2
      rw [e]
      exact r2
theorem x_fewestOf {P : kg_G} (hN : 100 < N) (hL : jLn P) {st : Nat → Int32} (h : kpq P T q st) (hk : jk D < 32) (hst : ∀ i, i < 5 → (jk D).testBit i = true → st i = jst D i) (hT0 : 0 < T) : ∃ S', kst P S' ∧ ((∃ x, smn (sgd T q D) 32 x ∧ fX4_fewestOf N P (nI (jk D)) = some (nI x, S')) ∨ ((∀ y, y < 32 → ¬ sgd T q D y) ∧ fX4_fewestOf N P (nI (jk D)) = some (-1, S'))) := by
  have hT := h.2.1
  obtain ⟨S1, t1, t2, t3⟩ := x_fsearch hN hL h hk hst hT0 (kst_self hL) hk (Nat.and_self _)
  unfold fX4_fewestOf
  rcases t3 with ⟨g, e⟩ | ⟨g, e⟩
  · obtain ⟨S2, r1, r2⟩ := x_few22 hN hL h hk hst hT0 5 1 N S1 (by omega) (Nat.le_refl 1) (by omega) t1 (fun y h1 h2 hg => (bc_eq y h2).2.2 h1)
    refine ⟨S2, r1, ?_⟩
    rw [e, Option.bind_some]
    have el : (if (nI T, S1).2.1 17 5 ≤ (nI T, S1).1 then fX4_fewestOf_22 N N (nI T, S1).2 (nI (jk D)) 1 else some (-1, (nI T, S1).2)) = fX4_fewestOf_22 N N S1 (nI (jk D)) (nI 1) := by
      show (if S1.1 17 5 ≤ nI T then fX4_fewestOf_22 N N S1 (nI (jk D)) 1 else some (-1, S1)) = _
      rw [t2, if_pos (Int32.le_refl _)]; rfl
    rw [el]
    exact r2
  · refine ⟨S1, t1, Or.inr ⟨fun y hy hg => g ⟨Nat.and_self _, ?_⟩, ?_⟩⟩
    · have h1 := sB_mono (T := T) (q := q) (st := jst D) hy hk hg.1
      have h2 := sB_le (T := T) (q := q) (st := jst D) (p := jk D)
      have := hg.2
      omega
    · rw [e, Option.bind_some]
      show (if S1.1 17 5 ≤ iI ((T : Int) - 1) then _ else some (-1, S1)) = _
      rw [t2, if_neg]
      rw [← iI_nat, Int32.le_iff_toInt_le, iI_int (by omega) (by omega), iI_int (by omega) (by omega)]
      omega
theorem m_fewestOf (h : jM N G T np q D) (hB : 10000000 < N) (w : Int32) : ∃ G2, mfr G G2 ∧ ((∃ x, smn (sgd T q D) 32 x ∧ fX11_fewestOf N G w = some (if w = 1 then nI x else fJ6_bitCount_0f7a4 (nI x), G2)) ∨ ((∀ y, y < 32 → ¬ sgd T q D y) ∧ fX11_fewestOf N G w = some (-1, G2))) := by
  have hN := h.2.2.2.2.2
  have hU := h.2.1
  have hV := h.2.2.2.2.1
  have hk := jk32 hV hU
  have hT := hU.1
  have nn1 : ∀ x, x < 32 → ¬ nI x = -1 := by decide +kernel
  obtain ⟨n', a', e1, e2, e3⟩ := kl_inv (fun n (a : kg_G × Int32) i => fX11_fewestOf_10 N n a.1 w (nI (jk D)) a.2 i) (fun j a => mfr G a.1 ∧ ((a.2 = -1 ∧ ∀ y, y < j → ¬ sgd T q D y) ∨ ∃ x, a.2 = nI x ∧ smn (sgd T q D) j x)) 32 (n := N) (a := (G, -1)) (by omega) ⟨mfr_refl h.1, Or.inl ⟨rfl, fun y hy => by omega⟩⟩ (by
    intro n a j hj ⟨a1, a2⟩
    have hMa := mfr_M h a1
    have q1 : ¬ (32 : Int32) ≤ nI j := m_loop (m := 32) (by omega) hj
    have eout := kb_out j hj _ hk
    have hbj := bc_eq j hj
    -- keep the best
    have keep : (∀ x, a.2 = nI x → smn (sgd T q D) j x → ¬ (sgd T q D j ∧ bc j < bc x)) → (a.2 = -1 → ¬ sgd T q D j) → ((a.2 = -1 ∧ ∀ y, y < j + 1 → ¬ sgd T q D y) ∨ ∃ x, a.2 = nI x ∧ smn (sgd T q D) (j + 1) x) := by
      intro k1 k2
      rcases a2 with ⟨b1, b2⟩ | ⟨x, b1, b2⟩
      · refine Or.inl ⟨b1, fun y hy => ?_⟩
        by_cases e : y = j
        · rw [e]; exact k2 b1
        · exact b2 y (by omega)
      · refine Or.inr ⟨x, b1, by have := b2.1; omega, b2.2.1, fun y hy hg => ?_⟩
        by_cases e : y = j
        · rw [e] at hg ⊢
          have h1 := k1 x b1 b2
          have h2 : ¬ bc j < bc x := fun z => h1 ⟨hg, z⟩
          have h3 := b2.1
          omega
        · exact b2.2.2 y (by omega) hg
    by_cases c1 : j &&& jk D = j
    · -- whether it may be better
      obtain ⟨G3, t1, t2, _⟩ := m_layMost hMa hB hj c1
      have hle := sB_le (T := T) (q := q) (st := jst D) (p := j)
      have e3 : G3.1 28 3 = nI T := by rw [t2.2.1]; exact m_T hMa
      have e43 : fX11_fewestOf_43 N (fX11_fewestOf_10 N n) a.1 w (nI (jk D)) a.2 (nI j) = if (sB T q (jst D) j).1 = T then fX11_fewestOf_10 N n G3 w (nI (jk D)) (nI j) (nI (j + 1)) else fX11_fewestOf_10 N n G3 w (nI (jk D)) a.2 (nI (j + 1)) := by
        unfold fX11_fewestOf_43 fX11_fewestOf_48
        rw [if_neg (by decide), t1, Option.bind_some]
        show (if nI (sB T q (jst D) j).1 = G3.1 28 3 then _ else _) = _
        have eq := kn_eq (a := (sB T q (jst D) j).1) (b := T) (by omega) (by omega)
        rw [e3, kn_succ]
        simp only [eq]
      have e47 : fX11_fewestOf_47 N (fX11_fewestOf_10 N n) a.1 w (nI (jk D)) a.2 (nI j) = fX11_fewestOf_10 N n a.1 w (nI (jk D)) a.2 (nI (j + 1)) := by
        unfold fX11_fewestOf_47 fX11_fewestOf_48
        rw [if_pos rfl, kn_succ]
      rcases a2 with ⟨b1, b2⟩ | ⟨x, b1, b2⟩
      · have step : fX11_fewestOf_10 N (n + 1) a.1 w (nI (jk D)) a.2 (nI j) = if (sB T q (jst D) j).1 = T then fX11_fewestOf_10 N n G3 w (nI (jk D)) (nI j) (nI (j + 1)) else fX11_fewestOf_10 N n G3 w (nI (jk D)) a.2 (nI (j + 1)) := by
          rw [fX11_fewestOf_10, if_neg q1, if_pos (eout.mpr c1), if_pos b1, e43]
        by_cases z : (sB T q (jst D) j).1 = T
        · refine ⟨(G3, nI j), ?_, mfr_trans a1 t2, Or.inr ⟨j, rfl, by omega, ⟨c1, z⟩, fun y hy hg => ?_⟩⟩
          · exact step.trans (if_pos z)
          · by_cases e : y = j
            · rw [e]; right; exact ⟨rfl, Nat.le_refl _⟩
            · exact absurd hg (b2 y (by omega))
        · refine ⟨(G3, a.2), ?_, mfr_trans a1 t2, keep (fun x hx _ => absurd (hx.symm.trans b1) (nn1 x (by
            rename_i hs
            have := hs.1
            omega))) (fun _ hg => z hg.2)⟩
          exact step.trans (if_neg z)
      · have hx32 : x < 32 := by have := b2.1; omega
        have hbx := bc_eq x hx32
        have nb : ¬ a.2 = -1 := by rw [b1]; exact nn1 x hx32
        have ele : (fJ6_bitCount_0f7a4 (nI x) ≤ fJ6_bitCount_0f7a4 (nI j)) = (bc x ≤ bc j) := by
          rw [hbx.1, hbj.1]; exact kn_le (by omega) (by omega)
        have ones1 : fX11_ones N a.2 = some (fJ6_bitCount_0f7a4 (nI x)) := by rw [b1]; exact m_ones hN hx32
        by_cases y : bc x ≤ bc j
        · refine ⟨(a.1, a.2), ?_, a1, keep (fun x' hx' hs' hg => ?_) (fun e => absurd e nb)⟩
          · show fX11_fewestOf_10 N (n + 1) a.1 w (nI (jk D)) a.2 (nI j) = fX11_fewestOf_10 N n a.1 w (nI (jk D)) a.2 (nI (j + 1))
            rw [fX11_fewestOf_10, if_neg q1, if_pos (eout.mpr c1), if_neg nb, m_ones hN hj, Option.bind_some, ones1, Option.bind_some, if_pos (by rw [ele]; exact y), e47]
          · have : x' = x := smn_eq hs' b2
            rw [this] at hg
            omega
        · have step : fX11_fewestOf_10 N (n + 1) a.1 w (nI (jk D)) a.2 (nI j) = if (sB T q (jst D) j).1 = T then fX11_fewestOf_10 N n G3 w (nI (jk D)) (nI j) (nI (j + 1)) else fX11_fewestOf_10 N n G3 w (nI (jk D)) a.2 (nI (j + 1)) := by
            rw [fX11_fewestOf_10, if_neg q1, if_pos (eout.mpr c1), if_neg nb, m_ones hN hj, Option.bind_some, ones1, Option.bind_some, if_neg (by rw [ele]; exact y), e43]
          by_cases z : (sB T q (jst D) j).1 = T
          · refine ⟨(G3, nI j), ?_, mfr_trans a1 t2, Or.inr ⟨j, rfl, by omega, ⟨c1, z⟩, fun y' hy' hg => ?_⟩⟩
            · exact step.trans (if_pos z)
            · by_cases e : y' = j
              · rw [e]; right; exact ⟨rfl, Nat.le_refl _⟩
              · have := b2.2.2 y' (by omega) hg
                left; omega
          · refine ⟨(G3, a.2), ?_, mfr_trans a1 t2, keep (fun x' hx' hs' hg => z hg.1.2) (fun e => absurd e nb)⟩
            exact step.trans (if_neg z)
    · refine ⟨(a.1, a.2), ?_, a1, keep (fun x' hx' hs' hg => c1 hg.1.1) (fun _ hg => c1 hg.1)⟩
      show fX11_fewestOf_10 N (n + 1) a.1 w (nI (jk D)) a.2 (nI j) = fX11_fewestOf_10 N n a.1 w (nI (jk D)) a.2 (nI (j + 1))
      rw [fX11_fewestOf_10, if_neg q1, if_neg (fun z => c1 (eout.mp z))]
      unfold fX11_fewestOf_47 fX11_fewestOf_48
      rw [if_pos rfl, kn_succ])
  refine ⟨a'.1, e2, ?_⟩
  have ef : fX11_fewestOf N G w = fX11_fewestOf_10 N (n' + 1) a'.1 w (nI (jk D)) a'.2 (nI 32) := by
    unfold fX11_fewestOf
    rw [m_keptSet h, Option.bind_some]
    exact e1
  rw [ef]
  rcases e3 with ⟨b1, b2⟩ | ⟨x, b1, b2⟩
  · right
    refine ⟨b2, ?_⟩
    rw [fX11_fewestOf_10, if_pos (by decide), if_pos b1, b1]
  · left
    refine ⟨x, b2, ?_⟩
    have nb : ¬ a'.2 = -1 := by rw [b1]; exact nn1 x b2.1
    rw [fX11_fewestOf_10, if_pos (by decide), if_neg nb, b1, m_ones hN b2.1, Option.bind_some]
    split <;> rfl
end FW
