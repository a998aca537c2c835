/-! THE REFERENCE'S SEARCH: the walk -/
theorem kb_pred : ∀ t, t < 6 → nI (t + 1) + (-1) = nI t := by decide +kernel
theorem kb_dec : ∀ c, c < 6 → nI (c + 1) - 1 = nI c ∧ nI c - 0 = nI c := by decide +kernel
theorem kb_left : ∀ c, c < 6 → ∀ t, t < 6 → (nI c + 5) - nI t = iI ((c : Int) + 5 - (t : Int)) := by decide +kernel
theorem lay48 {N : Nat} {k : kg_G → Int32 → Int32 → Int32 → Option (Int32 × kg_G)} {G : kg_G} {l2 l4 : Int32} : fX11_layMost_48 N k G l2 (nI 5) l4 = fX11_layMost_105 N k G l2 (nI 5) l4 := by
  unfold fX11_layMost_48 fX11_layMost_105
  rw [if_neg (by decide)]
  rfl
theorem m_pop {N n : Nat} {G : kg_G} {row best pl : List Int32} {l2 : Int32} {t s cnt : Nat} (ht : t < 5) (hl : row.length = 5) (hr : row.getD t 0 = nI s) (hs : s < 32) (hc : cnt < 6) : fX11_layMost_105 N (fX11_layMost_19 N n) (km G row best pl) l2 (nI (t + 1)) (nI (cnt + (if s = 0 then 0 else 1))) = fX11_layMost_19 N n (km G (row.set t 0) best pl) l2 (nI t) (nI cnt) := by
  unfold fX11_layMost_105 fX11_layMost_128
  have g35 : (km G row best pl).2.1 35 = row := rfl
  have es : (nI s = 0) = (s = 0) := kn_eq (a := s) (b := 0) (by omega) (by omega)
  rw [kb_pred t (by omega), if_neg (kn_neg (by omega)), g35, kn_g (by omega) (by omega), Option.bind_some, kn_p (by omega) (by omega), Option.bind_some, Option.bind_some, km_35, hr]
  simp only [es]
  by_cases z : s = 0
  · rw [if_pos z, if_pos z, Nat.add_zero, (kb_dec cnt hc).2]
  · rw [if_neg z, if_neg z, (kb_dec cnt hc).1]
def kwalk (N : Nat) (G : kg_G) (op : Nat → (Nat → Nat) → Nat → Bool) (d t : Nat) : Prop :=
  ∀ (r : Nat → Nat) (cnt : Nat) (b : Int × (Nat → Nat)) (row best pl : List Int32), cnt ≤ t → (-1 ≤ b.1 ∧ b.1 ≤ 5) → kys row r t → kbe best b.2 → pl.length = 5 → (t < 5 → pl.getD t 0 = nI 0) → ∃ k row' best' pl', k ≤ kB d ∧ (∀ n, fX11_layMost_19 N (n + k) (km G row best pl) (iI b.1) (nI t) (nI cnt) = fX11_layMost_105 N (fX11_layMost_19 N n) (km G row' best' pl') (iI (svis b (sW op d t cnt r)).1) (nI t) (nI cnt)) ∧ kys row' r t ∧ kbe best' (svis b (sW op d t cnt r)).2 ∧ pl'.length = 5 ∧ ∀ i, i < t → pl'.getD i 0 = pl.getD i 0
section WK
variable {N : Nat} {G : kg_G} {T np : Nat} {q : Nat → tk_Q} {D : jD}
theorem m_walk0 (h : jM N G T np q D) (op : Nat → (Nat → Nat) → Nat → Bool) : kwalk N G op 0 5 := by
  intro r cnt b row best pl hcnt hb hrow hbest hpl _
  have hN := h.2.2.2.2.2
  have es : sW op 0 5 cnt r = ((cnt : Int), r) := by
    unfold sW
    show ((cnt : Int) + ((0 : Nat) : Int), r) = _
    congr 1
  rw [es]
  have ele : (nI cnt ≤ iI b.1) = ((cnt : Int) ≤ b.1) := by
    rw [← iI_nat, Int32.le_iff_toInt_le, iI_int (by omega) (by omega), iI_int (by omega) (by omega)]
  have q0 : ¬ nI 5 < 0 := by decide
  have q5 : nI 5 = 5 := rfl
  by_cases z : (cnt : Int) ≤ b.1
  · have ev : svis b ((cnt : Int), r) = b := by
      unfold svis
      rw [if_neg (by show ¬ b.1 < (cnt : Int); omega)]
    rw [ev]
    refine ⟨1, row, best, pl, Nat.le_refl 1, fun n => ?_, hrow, hbest, hpl, fun _ _ => rfl⟩
    rw [fX11_layMost_19, if_neg q0, if_pos q5, if_pos (by rw [ele]; exact z), lay48]
  · have ev : svis b ((cnt : Int), r) = ((cnt : Int), r) := by
      unfold svis
      rw [if_pos (by show b.1 < (cnt : Int); omega)]
    rw [ev]
    refine ⟨1, row, row, pl, Nat.le_refl 1, fun n => ?_, hrow, ⟨hrow.1, fun i hi => (hrow.2 i hi).1⟩, hpl, fun _ _ => rfl⟩
    have g35 : (km G row best pl).2.1 35 = row := rfl
    rw [fX11_layMost_19, if_neg q0, if_pos q5, if_neg (by rw [ele]; exact z), m_copyN hN (km_L h.1 hrow.1 hbest.1 hpl) (by decide) (by decide) (by decide) (by decide) (by decide), Option.bind_some, g35, km_36, lay48]
    rfl
theorem m_level (h : jM N G T np q D) {way : Nat → Nat → Bool} {d t : Nat} (htd : t + (d + 1) = 5) (hlv : klv (G.2.1 33) (G.2.1 34) t (kc (way t) 31)) (hway : ∀ s, way t s = true → t < T) (h11 : (kc (way t) 31).length ≤ 11) (hw : kwalk N G (sop way (scl T q)) d (t + 1)) {r : Nat → Nat} {cnt : Nat} (hcnt : cnt ≤ t) : ∀ (e x : Nat) (b : Int × (Nat → Nat)) (row best pl : List Int32), x + e = (kc (way t) 31).length → (-1 ≤ b.1 ∧ b.1 ≤ 5) → kys row r t → kbe best b.2 → pl.length = 5 → pl.getD t 0 = nI x → ∃ k row' best' pl', k ≤ e * (1 + kB d) + 1 ∧ (∀ n, fX11_layMost_19 N (n + k) (km G row best pl) (iI b.1) (nI t) (nI cnt) = fX11_layMost_105 N (fX11_layMost_19 N n) (km G row' best' pl') (iI (((kc (way t) 31).drop x).foldl (sf T q (sop way (scl T q)) d t cnt r) b).1) (nI t) (nI cnt)) ∧ kys row' r t ∧ kbe best' (((kc (way t) 31).drop x).foldl (sf T q (sop way (scl T q)) d t cnt r) b).2 ∧ pl'.length = 5 ∧ ∀ i, i < t → pl'.getD i 0 = pl.getD i 0 := by
  have hN := h.2.2.2.2.2
  have l33 : (G.2.1 33).length = 80 := h.1 33 (by decide)
  have l34 : (G.2.1 34).length = 5 := h.1 34 (by decide)
  intro e
  have q0 : ¬ nI t < 0 := kn_neg (by omega)
  have q5 : ¬ nI t = 5 := fun w => by
    have := (kn_eq (a := t) (b := 5) (by omega) (by omega)).mp w
    omega
  have g34 : ∀ row best pl, (km G row best pl).2.1 34 = G.2.1 34 := fun _ _ _ => rfl
  have g33 : ∀ row best pl, (km G row best pl).2.1 33 = G.2.1 33 := fun _ _ _ => rfl
  have g37 : ∀ row best pl, (km G row best pl).2.1 37 = pl := fun _ _ _ => rfl
  have g35 : ∀ row best pl, (km G row best pl).2.1 35 = row := fun _ _ _ => rfl
  induction e with
  | zero =>
    intro x b row best pl hx hb hrow hbest hpl hpx
    have hd : (kc (way t) 31).drop x = [] := List.drop_eq_nil_of_le (by omega)
    rw [hd]
    refine ⟨1, row, best, pl, by omega, fun n => ?_, hrow, hbest, hpl, fun _ _ => rfl⟩
    rw [fX11_layMost_19, if_neg q0, if_neg q5, g37, kn_g (by omega) (by omega), Option.bind_some, g34, kn_g (by omega) (by omega), Option.bind_some, hpx, hlv.1, if_pos (by rw [show x = (kc (way t) 31).length by omega])]
    rfl
  | succ e ih =>
    intro x b row best pl hx hb hrow hbest hpl hpx
    have hxl : x < (kc (way t) 31).length := by omega
    have hne : ¬ nI x = nI (kc (way t) 31).length := fun w => by
      have := (kn_eq (a := x) (b := (kc (way t) 31).length) (by omega) (by omega)).mp w
      omega
    have elt : (iI b.1 < (nI cnt + 5) - nI t) = (b.1 < (cnt : Int) + 5 - (t : Int)) := by
      rw [kb_left cnt (by omega) t (by omega), iI_lt (by omega) (by omega)]
    by_cases hp : b.1 < (cnt : Int) + 5 - (t : Int)
    rotate_left
    · rw [sf_stop (by omega)]
      refine ⟨1, row, best, pl, by omega, fun n => ?_, hrow, hbest, hpl, fun _ _ => rfl⟩
      rw [fX11_layMost_19, if_neg q0, if_neg q5, g37, kn_g (by omega) (by omega), Option.bind_some, g34, kn_g (by omega) (by omega), Option.bind_some, hpx, hlv.1, if_neg hne, if_neg (by rw [elt]; exact hp)]
    obtain ⟨s, hsd⟩ : ∃ s, s = (kc (way t) 31).getD x 0 := ⟨_, rfl⟩
    have hdr : (kc (way t) 31).drop x = s :: (kc (way t) 31).drop (x + 1) := by
      rw [List.drop_eq_getElem_cons hxl, hsd, List.getD_eq_getElem?_getD, List.getElem?_eq_getElem hxl]; rfl
    have hmem : s ∈ kc (way t) 31 := by
      rw [hsd, List.getD_eq_getElem?_getD, List.getElem?_eq_getElem hxl]
      exact List.getElem_mem hxl
    have hs32 : s < 32 := by
      rcases kc_mem _ _ _ hmem with w | ⟨w, _⟩ <;> omega
    have hst : s = 0 ∨ t < T := by
      rcases kc_mem _ _ _ hmem with w | ⟨_, w⟩
      · exact Or.inl w
      · exact Or.inr (hway s w)
    have hcs : (G.2.1 33).getD (16 * t + x) 0 = nI s := by rw [hlv.2 x hxl, hsd]
    have lp2 : (pl.set t (nI (x + 1))).length = 5 := by rw [List.length_set, hpl]
    have hfree := m_isFree h hrow.1 hbest.1 lp2 hrow.2 (show t < 5 by omega) hs32 hst
    rw [hdr, List.foldl_cons]
    have hgp : ∀ i, i < t → (pl.set t (nI (x + 1))).getD i 0 = pl.getD i 0 := fun i hi => by rw [getD_set (by omega), if_neg (by omega)]
    have hgt : (pl.set t (nI (x + 1))).getD t 0 = nI (x + 1) := by rw [getD_set (by omega), if_pos rfl]
    have step : ∀ n, fX11_layMost_19 N (n + 1) (km G row best pl) (iI b.1) (nI t) (nI cnt) = if sfr T q t r s then (if nI s = 0 then fX11_layMost_199 N (fX11_layMost_19 N n) (km G (row.set t (nI s)) best (pl.set t (nI (x + 1)))) (iI b.1) (nI t) (nI cnt) 0 else fX11_layMost_199 N (fX11_layMost_19 N n) (km G (row.set t (nI s)) best (pl.set t (nI (x + 1)))) (iI b.1) (nI t) (nI cnt) 1) else fX11_layMost_19 N n (km G row best (pl.set t (nI (x + 1)))) (iI b.1) (nI t) (nI cnt) := by
      intro n
      have lr : row.length = 5 := hrow.1
      rw [fX11_layMost_19, if_neg q0, if_neg q5, g37, kn_g (by omega) (by omega), Option.bind_some, g34, kn_g (by omega) (by omega), Option.bind_some, hpx, hlv.1, if_neg hne, if_pos (by rw [elt]; exact hp), Option.bind_some, kn_16, kn_add, g33, kn_g (by omega) (by omega), Option.bind_some, Option.bind_some, hcs, kn_succ, kn_p (by omega) (by omega), Option.bind_some, km_37, hfree, Option.bind_some, g35, kn_p (by omega) (by omega), Option.bind_some, km_35]
      cases sfr T q t r s
      · rfl
      · rfl
    by_cases zf : sfr T q t r s = true
    rotate_left
    · have esf : sf T q (sop way (scl T q)) d t cnt r b s = b := by
        unfold sf
        rw [if_neg zf]
      rw [esf]
      obtain ⟨k, row', best', pl', k1, k2, k3, k4, k5, k6⟩ := ih (x + 1) b row best (pl.set t (nI (x + 1))) (by omega) hb hrow hbest lp2 hgt
      refine ⟨k + 1, row', best', pl', ?_, fun n => ?_, k3, k4, k5, fun i hi => by rw [k6 i hi, hgp i hi]⟩
      · rw [Nat.succ_mul]; omega
      · rw [← Nat.add_assoc, step, if_neg zf, k2 n]
    have esf : sf T q (sop way (scl T q)) d t cnt r b s = svis b (sW (sop way (scl T q)) d (t + 1) ((cnt + (if s = 0 then 0 else 1) : Nat) : Int) (su r t s)) := by
      unfold sf
      rw [if_pos zf]
    have hdz : (if s = 0 then 0 else 1) ≤ 1 := by split <;> omega
    obtain ⟨dz, hdz'⟩ : ∃ dz : Nat, dz = if s = 0 then 0 else 1 := ⟨_, rfl⟩
    have hdz1 : dz ≤ 1 := by rw [hdz']; exact hdz
    have es : (nI s = 0) = (s = 0) := kn_eq (a := s) (b := 0) (by omega) (by omega)
    -- push
    let pl2 := if t + 1 < 5 then (pl.set t (nI (x + 1))).set (t + 1) 0 else pl.set t (nI (x + 1))
    have lpl2 : pl2.length = 5 := by
      show (if t + 1 < 5 then (pl.set t (nI (x + 1))).set (t + 1) 0 else pl.set t (nI (x + 1))).length = 5
      split
      · rw [List.length_set, lp2]
      · exact lp2
    have hpl2 : ∀ i, i ≤ t → pl2.getD i 0 = (pl.set t (nI (x + 1))).getD i 0 := by
      intro i hi
      show (if t + 1 < 5 then (pl.set t (nI (x + 1))).set (t + 1) 0 else pl.set t (nI (x + 1))).getD i 0 = _
      split
      · rw [getD_set (by omega), if_neg (by omega)]
      · rfl
    have push : ∀ n, fX11_layMost_19 N (n + 1) (km G row best pl) (iI b.1) (nI t) (nI cnt) = fX11_layMost_19 N n (km G (row.set t (nI s)) best pl2) (iI b.1) (nI (t + 1)) (nI (cnt + dz)) := by
      intro n
      rw [step, if_pos zf]
      have e199 : ∀ z : Nat, fX11_layMost_199 N (fX11_layMost_19 N n) (km G (row.set t (nI s)) best (pl.set t (nI (x + 1)))) (iI b.1) (nI t) (nI cnt) (nI z) = fX11_layMost_19 N n (km G (row.set t (nI s)) best pl2) (iI b.1) (nI (t + 1)) (nI (cnt + z)) := by
        intro z
        unfold fX11_layMost_199
        have e5 : ((5 : Int32) ≤ nI (t + 1)) = (5 ≤ t + 1) := kn_le (a := 5) (b := t + 1) (by omega) (by omega)
        rw [kn_succ, kn_add]
        by_cases w : t + 1 < 5
        · have epl : pl2 = (pl.set t (nI (x + 1))).set (t + 1) 0 := if_pos w
          rw [if_neg (by rw [e5]; omega), g37, kn_p (by omega) (by omega), Option.bind_some, km_37, epl]
        · have epl : pl2 = pl.set t (nI (x + 1)) := if_neg w
          rw [if_pos (by rw [e5]; omega), epl]
      by_cases w : s = 0
      · rw [if_pos (by rw [es]; exact w)]
        have e0 := e199 0
        rw [show dz = 0 by rw [hdz', if_pos w]]
        exact e0
      · rw [if_neg (by rw [es]; exact w)]
        have e0 := e199 1
        rw [show dz = 1 by rw [hdz', if_neg w]]
        exact e0
    obtain ⟨k1, row1, best1, pl1, a1, a2, a3, a4, a5, a6⟩ := hw (su r t s) (cnt + dz) b (row.set t (nI s)) best pl2 (by omega) hb (kys_su hrow (by omega) hs32) hbest lpl2 (fun w => by
      show (if t + 1 < 5 then (pl.set t (nI (x + 1))).set (t + 1) 0 else pl.set t (nI (x + 1))).getD (t + 1) 0 = _
      rw [if_pos w, getD_set (by omega), if_pos rfl]; rfl)
    have hrt : row1.getD t 0 = nI s := by
      have := (a3.2 t (by omega)).1
      unfold su at this
      rw [if_pos rfl] at this
      exact this
    rw [esf, ← hdz']
    have hb1 : -1 ≤ (svis b (sW (sop way (scl T q)) d (t + 1) ((cnt + dz : Nat) : Int) (su r t s))).1 ∧ (svis b (sW (sop way (scl T q)) d (t + 1) ((cnt + dz : Nat) : Int) (su r t s))).1 ≤ 5 := svis_b hb (by
      have := (sV_fst_le (op := sop way (scl T q)) (d := d) (t := t + 1) (cnt := cnt + dz) (r := su r t s)).1
      omega)
    have hrow2 : kys (row1.set t 0) r t := by
      refine ⟨by rw [List.length_set]; exact a3.1, fun i hi => ?_⟩
      rw [getD_set (by rw [a3.1]; omega), if_neg (by omega)]
      exact (kys_of a3).2 i hi
    obtain ⟨k2, row2, best2, pl2', b1, b2, b3, b4, b5, b6⟩ := ih (x + 1) _ (row1.set t 0) best1 pl1 (by omega) hb1 hrow2 a4 a5 (by rw [a6 t (by omega), hpl2 t (Nat.le_refl t), hgt])
    refine ⟨k2 + k1 + 1, row2, best2, pl2', ?_, fun n => ?_, b3, b4, b5, fun i hi => by rw [b6 i hi, a6 i (by omega), hpl2 i (by omega), hgp i hi]⟩
    · rw [Nat.succ_mul]; omega
    · rw [show n + (k2 + k1 + 1) = (n + k2 + k1) + 1 by omega, push, a2, hdz', m_pop (by omega) a3.1 hrt hs32 (by omega), ← hdz', b2]
theorem m_walk (h : jM N G T np q D) {p : Nat} (hlv : ∀ u, u < 5 → klv (G.2.1 33) (G.2.1 34) u (kc (mway T q (jst D) p u) 31)) : ∀ d t, t + d = 5 → kwalk N G (sop (mway T q (jst D) p) (scl T q)) d t
  | 0, t, htd => by
    have : t = 5 := by omega
    subst this
    exact m_walk0 h _
  | d + 1, t, htd => by
    have hw := m_walk h hlv d (t + 1) (by omega)
    intro r cnt b row best pl hcnt hb hrow hbest hpl hp0
    have h11 : (kc (mway T q (jst D) p t) 31).length ≤ 11 := kc_11 sway_crew (Nat.le_refl 31)
    obtain ⟨k, row', best', pl', k1, k2, k3, k4, k5, k6⟩ := m_level h htd (hlv t (by omega)) (fun s hs => by
      unfold mway sway at hs
      simp only [Bool.and_eq_true, decide_eq_true_eq] at hs
      exact hs.1) h11 hw hcnt (kc (mway T q (jst D) p t) 31).length 0 b row best pl (by omega) hb hrow hbest hpl (hp0 (by omega))
    rw [List.drop_zero, sf_all] at k2 k4
    refine ⟨k, row', best', pl', ?_, k2, k3, k4, k5, k6⟩
    have : (kc (mway T q (jst D) p t) 31).length * (1 + kB d) ≤ 16 * (1 + kB d) := Nat.mul_le_mul_right _ (by omega)
    show k ≤ 16 * (1 + kB d) + 1
    omega
end WK
