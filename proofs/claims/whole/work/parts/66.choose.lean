/-! THE CLASS'S SEARCH: choose -/
theorem k_least (p : Nat → Bool) : ∀ n, (∃ s, s < n ∧ p s = true) → ∃ s, s < n ∧ p s = true ∧ ∀ j, j < s → p j = false
  | 0, ⟨s, h, _⟩ => by omega
  | n + 1, ⟨s, h1, h2⟩ => by
    by_cases h : ∃ s, s < n ∧ p s = true
    · obtain ⟨s, a, b, c⟩ := k_least p n h
      exact ⟨s, by omega, b, c⟩
    · refine ⟨s, h1, h2, fun j hj => ?_⟩
      cases e : p j
      · rfl
      · exact absurd ⟨j, by omega, e⟩ h
def kxs (xs : List Int32) (f : Nat → Nat) (T : Nat) : Prop := xs.length = 5 ∧ (∀ i, i < 5 → xs.getD i 0 = nI (f i)) ∧ ∀ i, T ≤ i → f i = 0
def kys (ys : List Int32) (r : Nat → Nat) (t : Nat) : Prop := ys.length = 5 ∧ ∀ i, i < t → ys.getD i 0 = nI (r i) ∧ r i < 32
theorem kys_su {ys : List Int32} {r : Nat → Nat} {t s : Nat} (h : kys ys r t) (ht : t < 5) (hs : s < 32) : kys (ys.set t (nI s)) (su r t s) (t + 1) := by
  refine ⟨by rw [List.length_set]; exact h.1, fun i hi => ?_⟩
  rw [getD_set (by rw [h.1]; exact ht)]
  unfold su
  by_cases e : i = t
  · rw [if_pos e, if_pos e]; exact ⟨rfl, hs⟩
  · rw [if_neg e, if_neg e]; exact h.2 i (by omega)
theorem kys_of {ys : List Int32} {r : Nat → Nat} {t s : Nat} (h : kys ys (su r t s) (t + 1)) : kys ys r t := by
  refine ⟨h.1, fun i hi => ?_⟩
  have := h.2 i (by omega)
  unfold su at this
  rw [if_neg (by omega)] at this
  exact this
theorem sV_fst_le {op : Nat → (Nat → Nat) → Nat → Bool} {d t : Nat} {cnt : Nat} {r : Nat → Nat} : (sW op d t cnt r).1 ≤ (cnt : Int) + d ∧ (cnt : Int) ≤ (sW op d t cnt r).1 := by
  unfold sW
  have := sV_le op d t r
  show (cnt : Int) + ((sV op d t r).1 : Int) ≤ _ ∧ (cnt : Int) ≤ (cnt : Int) + ((sV op d t r).1 : Int)
  omega
theorem svis_b {b x : Int × (Nat → Nat)} {l u : Int} (hb : l ≤ b.1 ∧ b.1 ≤ u) (hx : x.1 ≤ u) : l ≤ (svis b x).1 ∧ (svis b x).1 ≤ u := by
  unfold svis
  split
  · omega
  · exact hb
section CH
variable {N : Nat} {G : kg_G} {T : Nat} {q : Nat → tk_Q} {st : Nat → Int32} {aw : Nat}
/-- what a deeper level does -/
def krec (G : kg_G) (T : Nat) (op : Nat → (Nat → Nat) → Nat → Bool) (rec : kg_G → Int32 → Int32 → Option kg_G) (d t : Nat) : Prop :=
  ∀ (r : Nat → Nat) (cnt : Nat) (b : Int × (Nat → Nat)) (xs ys : List Int32), cnt ≤ t → (-1 ≤ b.1 ∧ b.1 ≤ 5) → kxs xs b.2 T → kys ys r t → (∀ i, T ≤ i → r i = 0) → ∃ xs' ys', rec (kf G (iI b.1) xs ys) (nI t) (nI cnt) = some (kf G (iI (svis b (sW op d t cnt r)).1) xs' ys') ∧ kxs xs' (svis b (sW op d t cnt r)).2 T ∧ kys ys' r t
theorem x_ch83 (hN : 100 < N) (h : kpq G T q st) {rec : kg_G → Int32 → Int32 → Option kg_G} {op : Nat → (Nat → Nat) → Nat → Bool} {d t : Nat} (hrec : krec G T op rec d (t + 1)) (htd : t + 1 + d = T) {r : Nat → Nat} {cnt : Nat} (hcnt : cnt ≤ t) (hr0 : ∀ i, T ≤ i → r i = 0) {x : Int32} (hx : ∀ s, s < 32 → ib x s = (decide (1 ≤ s) && op t r s)) (hh : x = 0 ∨ ∀ v xs ys, fX4_hindersLater (kf G v xs ys) (nI t) = some 1) {b : Int × (Nat → Nat)} {xs ys : List Int32} (hb : -1 ≤ b.1 ∧ b.1 ≤ 5) (hxs : kxs xs b.2 T) (hys : kys ys r t) : ∃ xs' ys', fX4_choose_83 N rec N (kf G (iI b.1) xs ys) (nI t) (nI cnt) x 1 = some (kf G (iI (kfo (fun i b => if op t r (i + 1) then svis b (sW op d (t + 1) ((cnt : Int) + 1) (su r t (i + 1))) else b) 31 b).1) xs' ys') ∧ kxs xs' (kfo (fun i b => if op t r (i + 1) then svis b (sW op d (t + 1) ((cnt : Int) + 1) (su r t (i + 1))) else b) 31 b).2 T ∧ kys ys' r t := by
  have hT := h.2.1
  let g : Nat → Int × (Nat → Nat) → Int × (Nat → Nat) := fun i b => if op t r (i + 1) then svis b (sW op d (t + 1) ((cnt : Int) + 1) (su r t (i + 1))) else b
  obtain ⟨a', e1, _, xs', ys', a1, a2, a3, a4⟩ := kl_go (fun n a i => fX4_choose_83 N rec n a (nI t) (nI cnt) x i) (fun m a => 1 ≤ m ∧ ∃ xs' ys', a = kf G (iI (kfo g (m - 1) b).1) xs' ys' ∧ kxs xs' (kfo g (m - 1) b).2 T ∧ kys ys' r t ∧ (-1 ≤ (kfo g (m - 1) b).1 ∧ (kfo g (m - 1) b).1 ≤ 5)) 32 (by
    intro n a m hm ⟨hm1, xs', ys', a1, a2, a3, a4⟩
    obtain ⟨i, rfl⟩ : ∃ i, m = i + 1 := ⟨m - 1, by omega⟩
    rw [Nat.add_sub_cancel] at a1 a2 a4
    have q1 : ¬ (32 : Int32) ≤ nI (i + 1) := m_loop (m := 32) (by omega) hm
    have hxi := hx (i + 1) hm
    have hi1 : decide (1 ≤ i + 1) = true := decide_eq_true (by omega)
    rw [hi1, Bool.true_and] at hxi
    have eg : kfo g (i + 1) b = if op t r (i + 1) then svis (kfo g i b) (sW op d (t + 1) ((cnt : Int) + 1) (su r t (i + 1))) else kfo g i b := rfl
    by_cases z : op t r (i + 1) = true
    · rw [z] at hxi
      have hx0 : ¬ x = 0 := by
        intro e
        rw [e, ib_zero] at hxi
        cases hxi
      obtain ⟨xs2, ys2, f1, f2, f3⟩ := hrec (su r t (i + 1)) (cnt + 1) (kfo g i b) xs' (ys'.set t (nI (i + 1))) (by omega) a4 a2 (kys_su a3 (by omega) hm) (fun j hj => by unfold su; rw [if_neg (by omega)]; exact hr0 j hj)
      have ec : ((cnt + 1 : Nat) : Int) = (cnt : Int) + 1 := by omega
      rw [ec] at f1 f2
      refine ⟨kf G (iI (kfo g (i + 1) b).1) xs2 ys2, ?_, by omega, xs2, ys2, rfl, ?_, kys_of f3, ?_⟩
      · show fX4_choose_83 N rec (n + 1) a (nI t) (nI cnt) x (nI (i + 1)) = fX4_choose_83 N rec n _ (nI t) (nI cnt) x (nI (i + 1 + 1))
        have g19 : (kf G (iI (kfo g i b).1) xs' ys').2.1 19 = ys' := rfl
        have ly : ys'.length = 5 := a3.1
        rw [a1, fX4_choose_83, if_neg q1, ib_has x hm, hxi, if_pos rfl, if_neg (by decide), g19, kn_p (by omega) (by omega), Option.bind_some, kf_19, kn_succ, kn_succ, kn_succ, f1, Option.bind_some, (hh.resolve_left hx0) _ _ _, Option.bind_some, if_neg (by decide), eg, if_pos z]
      · rw [Nat.add_sub_cancel, eg, if_pos z]; exact f2
      · rw [Nat.add_sub_cancel, eg, if_pos z]
        refine svis_b a4 ?_
        have := (sV_fst_le (op := op) (d := d) (t := t + 1) (cnt := cnt + 1) (r := su r t (i + 1))).1
        rw [ec] at this
        omega
    · have z' : op t r (i + 1) = false := by
        cases e : op t r (i + 1)
        · rfl
        · exact absurd e z
      rw [z'] at hxi
      refine ⟨a, ?_, by omega, xs', ys', ?_, ?_, a3, ?_⟩
      · show fX4_choose_83 N rec (n + 1) a (nI t) (nI cnt) x (nI (i + 1)) = fX4_choose_83 N rec n a (nI t) (nI cnt) x (nI (i + 1 + 1))
        rw [fX4_choose_83, if_neg q1, ib_has x hm, hxi, if_pos (by decide), kn_succ]
      · rw [Nat.add_sub_cancel, eg, if_neg z]; exact a1
      · rw [Nat.add_sub_cancel, eg, if_neg z]; exact a2
      · rw [Nat.add_sub_cancel, eg, if_neg z]; exact a4) 31 1 N (kf G (iI b.1) xs ys) (by omega) (by omega) ⟨Nat.le_refl 1, xs, ys, rfl, hxs, hys, hb⟩
  refine ⟨xs', ys', ?_, a2, a3⟩
  refine Eq.trans e1 ?_
  show fX4_choose_83 N rec (N - 31) a' (nI t) (nI cnt) x (nI 32) = _
  obtain ⟨n', hn'⟩ : ∃ n', N - 31 = n' + 1 := ⟨N - 32, by omega⟩
  rw [hn', fX4_choose_83, if_pos (by decide), a1]
theorem x_ch83f (hN : 100 < N) (h : kpq G T q st) {rec : kg_G → Int32 → Int32 → Option kg_G} {op : Nat → (Nat → Nat) → Nat → Bool} {d t : Nat} (hrec : krec G T op rec d (t + 1)) (htd : t + 1 + d = T) {r : Nat → Nat} {cnt : Nat} (hcnt : cnt ≤ t) (hr0 : ∀ i, T ≤ i → r i = 0) {x : Int32} {i0 : Nat} (hi0 : i0 < 31) (hx1 : ib x (i0 + 1) = true) (hx2 : ∀ j, j < i0 + 1 → ib x j = false) (hh : ∀ v xs ys, fX4_hindersLater (kf G v xs ys) (nI t) = some 0) {b : Int × (Nat → Nat)} {xs ys : List Int32} (hb : -1 ≤ b.1 ∧ b.1 ≤ 5) (hxs : kxs xs b.2 T) (hys : kys ys r t) : ∃ xs' ys', fX4_choose_83 N rec N (kf G (iI b.1) xs ys) (nI t) (nI cnt) x 1 = some (kf G (iI (svis b (sW op d (t + 1) ((cnt : Int) + 1) (su r t (i0 + 1)))).1) xs' ys') ∧ kxs xs' (svis b (sW op d (t + 1) ((cnt : Int) + 1) (su r t (i0 + 1)))).2 T ∧ kys ys' r t := by
  have hT := h.2.1
  obtain ⟨a', e1, a1⟩ := kl_go (fun n a i => fX4_choose_83 N rec n a (nI t) (nI cnt) x i) (fun m a => a = kf G (iI b.1) xs ys) (i0 + 1) (by
    intro n a m hm e
    refine ⟨a, ?_, e⟩
    show fX4_choose_83 N rec (n + 1) a (nI t) (nI cnt) x (nI m) = fX4_choose_83 N rec n a (nI t) (nI cnt) x (nI (m + 1))
    have q1 : ¬ (32 : Int32) ≤ nI m := m_loop (m := 32) (by omega) (by omega)
    rw [fX4_choose_83, if_neg q1, ib_has x (by omega), hx2 m hm, if_pos (by decide), kn_succ]) i0 1 N (kf G (iI b.1) xs ys) (by omega) (by omega) rfl
  obtain ⟨xs2, ys2, f1, f2, f3⟩ := hrec (su r t (i0 + 1)) (cnt + 1) b xs (ys.set t (nI (i0 + 1))) (by omega) hb hxs (kys_su hys (by omega) (by omega)) (fun j hj => by unfold su; rw [if_neg (by omega)]; exact hr0 j hj)
  have ec : ((cnt + 1 : Nat) : Int) = (cnt : Int) + 1 := by omega
  rw [ec] at f1 f2
  refine ⟨xs2, ys2, ?_, f2, kys_of f3⟩
  refine Eq.trans e1 ?_
  show fX4_choose_83 N rec (N - i0) a' (nI t) (nI cnt) x (nI (i0 + 1)) = _
  obtain ⟨n', hn'⟩ : ∃ n', N - i0 = n' + 1 := ⟨N - i0 - 1, by omega⟩
  have g19 : (kf G (iI b.1) xs ys).2.1 19 = ys := rfl
  have ly : ys.length = 5 := hys.1
  have q1 : ¬ (32 : Int32) ≤ nI (i0 + 1) := m_loop (m := 32) (by omega) (by omega)
  rw [hn', a1, fX4_choose_83, if_neg q1, ib_has x (by omega), hx1, if_pos rfl, if_neg (by decide), g19, kn_p (by omega) (by omega), Option.bind_some, kf_19, kn_succ, kn_succ, kn_succ, f1, Option.bind_some, hh _ _ _, Option.bind_some, if_pos rfl]
end CH
