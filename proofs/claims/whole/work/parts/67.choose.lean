/-! THE CLASS'S SEARCH: choose, search -/
theorem getD_takedrop {xs ys : List Int32} {n i : Nat} (hx : n ≤ xs.length) (hl : xs.length = ys.length) : (xs.take n ++ ys.drop n).getD i 0 = if i < n then xs.getD i 0 else ys.getD i 0 := by
  rw [List.getD_eq_getElem?_getD, List.getD_eq_getElem?_getD, List.getD_eq_getElem?_getD]
  by_cases h : i < n
  · rw [if_pos h, List.getElem?_append_left (by rw [List.length_take]; omega), List.getElem?_take_of_lt h]
  · rw [if_neg h, List.getElem?_append_right (by rw [List.length_take]; omega), List.getElem?_drop, List.length_take]
    congr 2
    omega
theorem iI_lt {a b : Int} (ha : -1000 ≤ a ∧ a ≤ 1000) (hb : -1000 ≤ b ∧ b ≤ 1000) : (iI a < iI b) = (a < b) := by
  rw [Int32.lt_iff_toInt_lt, iI_int (by omega) (by omega), iI_int (by omega) (by omega)]
section CH2
variable {N : Nat} {G : kg_G} {T : Nat} {q : Nat → tk_Q} {st : Nat → Int32} {aw : Nat}
theorem x_choose (hN : 100 < N) (h : kpq G T q st) (ha : G.1 17 6 = nI aw) (ha2 : aw < 32) : ∀ (d t e : Nat), t + d = T → krec G T (sop (sway T q st aw) (scl T q)) (fX4_choose N (d + 1 + e)) d t
  | d, t, e, htd => by
    intro r cnt b xs ys hcnt hb hxs hys hr0
    have hT := h.2.1
    have g5 : (kf G (iI b.1) xs ys).1 17 5 = nI T := h.1
    have g7 : (kf G (iI b.1) xs ys).1 17 7 = iI b.1 := rfl
    have hso := x_stillOpen (v := iI b.1) (xs := xs) hN h ha ha2 hys.1 hys.2 d t N 0 (Nat.le_refl t) htd (by omega)
    rw [Nat.zero_add] at hso
    have hso' : fX4_stillOpen N (kf G (iI b.1) xs ys) (nI t) = some (nI (sO (sway T q st aw) (scl T q) t r d t)) := hso
    have hle := sV_sO (sway T q st aw) (scl T q) d t r
    have hso5 : ∀ d u, sO (sway T q st aw) (scl T q) t r d u ≤ d := by
      intro d
      induction d with
      | zero => intro u; exact Nat.le_refl 0
      | succ d ih =>
        intro u
        rw [sO]
        have := ih (u + 1)
        split <;> omega
    have h5 := hso5 d t
    obtain ⟨F, hF⟩ : ∃ F, F = sO (sway T q st aw) (scl T q) t r d t := ⟨_, rfl⟩
    rw [← hF] at hso' hle h5
    have elt : (iI b.1 < nI cnt + nI F) = (b.1 < (cnt : Int) + F) := by
      rw [kn_add, ← iI_nat, iI_lt (by omega) (by omega)]
      exact propext (by omega)
    by_cases hp : b.1 < (cnt : Int) + F
    rotate_left
    · have es : svis b (sW (sop (sway T q st aw) (scl T q)) d t cnt r) = b := by
        unfold svis sW
        rw [if_neg]
        show ¬ b.1 < (cnt : Int) + ((sV (sop (sway T q st aw) (scl T q)) d t r).1 : Int)
        omega
      rw [es]
      refine ⟨xs, ys, ?_, hxs, hys⟩
      rw [show d + 1 + e = (d + e) + 1 by omega, fX4_choose]
      show fX4_choose_0 N _ _ _ _ = _
      unfold fX4_choose_0
      rw [hso', Option.bind_some, g7, if_neg (by rw [elt]; exact hp)]
    have hlt : (nI t < nI T) = (t < T) := kn_lt (by omega) (by omega)
    match d, htd, hle, hso', h5, hF with
    | 0, htd, hle, hso', h5, hF =>
      have hF0 : F = 0 := by omega
      have es : svis b (sW (sop (sway T q st aw) (scl T q)) 0 t cnt r) = ((cnt : Int), r) := by
        unfold svis sW
        rw [if_pos (by show b.1 < (cnt : Int) + ((0 : Nat) : Int); omega)]
        show ((cnt : Int) + ((0 : Nat) : Int), r) = _
        congr 1
      rw [es]
      have g19 : (kf G (iI b.1) xs ys).2.1 19 = ys := rfl
      have g18 : (kf G (iI b.1) xs ys).2.1 18 = xs := rfl
      have lx : xs.length = 5 := hxs.1
      have ly : ys.length = 5 := hys.1
      refine ⟨ys.take T ++ xs.drop T, ys, ?_, ⟨?_, ?_, hr0⟩, hys⟩
      · rw [show 0 + 1 + e = e + 1 by omega, fX4_choose]
        show fX4_choose_0 N _ _ _ _ = _
        unfold fX4_choose_0
        rw [hso', Option.bind_some, g7, if_pos (by rw [elt]; exact hp), g5, if_neg (by rw [hlt]; omega), g19, g18]
        unfold kg_cp
        rw [if_neg (kn_neg (by omega)), kn_nat (by omega), if_pos (by omega), Option.bind_some]
        refine congrArg some ?_
        unfold kf kg_a kg_i
        refine Prod.ext ?_ (Prod.ext ?_ rfl)
        · funext a j
          show (if a = 17 then if j = 7 then nI cnt else (if a = 17 then if j = 7 then iI b.1 else G.1 a j else G.1 a j) else (if a = 17 then if j = 7 then iI b.1 else G.1 a j else G.1 a j)) = (if a = 17 then if j = 7 then iI (cnt : Int) else G.1 a j else G.1 a j)
          by_cases z1 : a = 17
          · by_cases z2 : j = 7
            · rw [if_pos z1, if_pos z2, if_pos z1, if_pos z2]; rfl
            · rw [if_pos z1, if_neg z2, if_pos z1, if_neg z2, if_pos z1, if_neg z2]
          · rw [if_neg z1, if_neg z1, if_neg z1]
        · funext a
          show (if a = 18 then _ else if a = 19 then ys else if a = 18 then xs else G.2.1 a) = (if a = 19 then ys else if a = 18 then _ else G.2.1 a)
          by_cases z1 : a = 18
          · rw [if_pos z1, if_neg (by omega), if_pos z1]
          · rw [if_neg z1]
            by_cases z2 : a = 19
            · rw [if_pos z2, if_pos z2]
            · rw [if_neg z2, if_neg z2, if_neg z1, if_neg z1]
      · rw [List.length_append, List.length_take, List.length_drop]; omega
      · intro i hi
        rw [getD_takedrop (by omega) (by omega)]
        by_cases z : i < T
        · rw [if_pos z, (hys.2 i (by omega)).1]
        · rw [if_neg z, hxs.2.1 i hi, hxs.2.2 i (by omega)]
          show nI 0 = nI (r i)
          rw [hr0 i (by omega)]
    | d + 1, htd, hle, hso', h5, hF =>
      have hrec := x_choose hN h ha ha2 d (t + 1) e (by omega)
      have htT : t < T := by omega
      obtain ⟨x, ex, hx⟩ := x_openWays (v := iI b.1) (xs := xs) hN h ha ha2 hys.1 hys.2 (Nat.le_refl t) htT
      obtain ⟨hi, ehi, hhi⟩ := x_hinders (v := iI b.1) (xs := xs) (ys := ys) h htT
      have ehi' : ∀ v xs ys, fX4_hindersLater (kf G v xs ys) (nI t) = some (if hi then 1 else 0) := fun v xs ys => ehi
      have hx' : ∀ s, s < 32 → ib x s = (decide (1 ≤ s) && sop (sway T q st aw) (scl T q) t r s) := hx
      have base : fX4_choose N (d + 1 + 1 + e) (kf G (iI b.1) xs ys) (nI t) (nI cnt) = (if x = 0 then fX4_choose_65 N (fX4_choose N (d + 1 + e)) (kf G (iI b.1) xs ys) (nI t) (nI cnt) x else if hi = false then fX4_choose_83 N (fX4_choose N (d + 1 + e)) N (kf G (iI b.1) xs ys) (nI t) (nI cnt) x 1 else fX4_choose_65 N (fX4_choose N (d + 1 + e)) (kf G (iI b.1) xs ys) (nI t) (nI cnt) x) := by
        rw [show d + 1 + 1 + e = (d + 1 + e) + 1 by omega, fX4_choose]
        show fX4_choose_0 N _ _ _ _ = _
        unfold fX4_choose_0
        rw [hso', Option.bind_some, g7, if_pos (by rw [elt]; exact hp), g5, if_pos (by rw [hlt]; omega), ex, Option.bind_some, ehi', Option.bind_some]
        cases hi <;> rfl
      rw [base]
      by_cases z : x = 0 ∨ hi = true
      · have e65 : (if x = 0 then fX4_choose_65 N (fX4_choose N (d + 1 + e)) (kf G (iI b.1) xs ys) (nI t) (nI cnt) x else if hi = false then fX4_choose_83 N (fX4_choose N (d + 1 + e)) N (kf G (iI b.1) xs ys) (nI t) (nI cnt) x 1 else fX4_choose_65 N (fX4_choose N (d + 1 + e)) (kf G (iI b.1) xs ys) (nI t) (nI cnt) x) = fX4_choose_65 N (fX4_choose N (d + 1 + e)) (kf G (iI b.1) xs ys) (nI t) (nI cnt) x := by
          rcases z with z | z
          · rw [if_pos z]
          · rw [z]
            split
            · rfl
            · rfl
        rw [e65, sW_succ]
        obtain ⟨xs1, ys1, f1, f2, f3⟩ := hrec (su r t 0) cnt b xs (ys.set t (nI 0)) (by omega) hb hxs (kys_su hys (by omega) (by omega)) (fun j hj => by unfold su; rw [if_neg (by omega)]; exact hr0 j hj)
        have hb1 : -1 ≤ (svis b (sW (sop (sway T q st aw) (scl T q)) d (t + 1) cnt (su r t 0))).1 ∧ (svis b (sW (sop (sway T q st aw) (scl T q)) d (t + 1) cnt (su r t 0))).1 ≤ 5 := svis_b hb (by
          have := (sV_fst_le (op := sop (sway T q st aw) (scl T q)) (d := d) (t := t + 1) (cnt := cnt) (r := su r t 0)).1
          omega)
        obtain ⟨xs2, ys2, k1, k2, k3⟩ := x_ch83 hN h hrec (by omega) hcnt hr0 hx' (z.imp id (fun z v xs ys => by rw [ehi' v xs ys, z]; rfl)) hb1 f2 (kys_of f3)
        refine ⟨xs2, ys2, ?_, k2, k3⟩
        unfold fX4_choose_65
        have g19 : (kf G (iI b.1) xs ys).2.1 19 = ys := rfl
        have ly : ys.length = 5 := hys.1
        have f1' : fX4_choose N (d + 1 + e) (kf G (iI b.1) xs (ys.set t 0)) (nI (t + 1)) (nI cnt) = some (kf G (iI (svis b (sW (sop (sway T q st aw) (scl T q)) d (t + 1) cnt (su r t 0))).1) xs1 ys1) := f1
        rw [g19, kn_p (by omega) (by omega), Option.bind_some, kf_19, kn_succ, f1', Option.bind_some]
        exact k1
      · have z1 : ¬ x = 0 := fun y => z (Or.inl y)
        have z2 : hi = false := by
          cases hi
          · rfl
          · exact absurd (Or.inr rfl) z
        rw [if_neg z1, if_pos z2]
        obtain ⟨s, s1, s2, s3⟩ := k_least (fun s => ib x s) 32 (by
          cases Classical.em (∃ s, s < 32 ∧ ib x s = true) with
          | inl y => exact y
          | inr y =>
            refine absurd ?_ z1
            rw [ib_eq0]
            intro s hs
            cases w : ib x s
            · rfl
            · exact absurd ⟨s, hs, w⟩ y)
        have hs1 : 1 ≤ s := by
          cases Nat.lt_or_ge s 1 with
          | inr y => exact y
          | inl y =>
            have s2' : ib x s = true := s2
            rw [hx' s s1, decide_eq_false (by omega)] at s2'
            cases s2'
        obtain ⟨i0, rfl⟩ : ∃ i0, s = i0 + 1 := ⟨s - 1, by omega⟩
        have ho : sop (sway T q st aw) (scl T q) t r (i0 + 1) = true := by
          have s2' : ib x (i0 + 1) = true := s2
          rw [hx' (i0 + 1) s1, decide_eq_true hs1, Bool.true_and] at s2'
          exact s2'
        have hf : ∀ i, i < i0 → sop (sway T q st aw) (scl T q) t r (i + 1) = false := by
          intro i hi
          have s3' : ib x (i + 1) = false := s3 (i + 1) (by omega)
          rw [hx' (i + 1) (by omega), decide_eq_true (show 1 ≤ i + 1 by omega), Bool.true_and] at s3'
          exact s3'
        have eV := sV_first (sway T q st aw) (scl T q) d t r (hhi z2) i0 (by omega) ho hf
        have eW : sW (sop (sway T q st aw) (scl T q)) (d + 1) t cnt r = sW (sop (sway T q st aw) (scl T q)) d (t + 1) ((cnt : Int) + 1) (su r t (i0 + 1)) := by
          unfold sW
          rw [eV]
          refine Prod.ext ?_ rfl
          show (cnt : Int) + (((sV (sop (sway T q st aw) (scl T q)) d (t + 1) (su r t (i0 + 1))).1 + 1 : Nat) : Int) = (cnt : Int) + 1 + ((sV (sop (sway T q st aw) (scl T q)) d (t + 1) (su r t (i0 + 1))).1 : Int)
          omega
        rw [eW]
        exact x_ch83f hN h hrec (by omega) hcnt hr0 (by omega) s2 s3 (fun v xs ys => by rw [ehi' v xs ys, z2]; rfl) hb hxs hys
end CH2
