/-! BOTH SEARCHES find the same -/
theorem sV_none {op : Nat → (Nat → Nat) → Nat → Bool} : ∀ (e t : Nat) (r : Nat → Nat), (∀ u r s, t ≤ u → op u r s = false) → (∀ u, t ≤ u → r u = 0) → sV op e t r = (0, r)
  | 0, _, _, _, _ => rfl
  | e + 1, t, r, h1, h2 => by
    have es : su r t 0 = r := by
      funext u
      unfold su
      by_cases z : u = t
      · rw [if_pos z, z, h2 t (Nat.le_refl t)]
      · rw [if_neg z]
    rw [sV, es, sV_none e (t + 1) r (fun u r s hu => h1 u r s (by omega)) (fun u hu => h2 u (by omega))]
    refine kfo_ext (m := 0) (m' := 31) _ (by omega) (fun j a _ _ => ?_)
    rw [h1 t r (j + 1) (Nat.le_refl t), if_neg (by decide)]
theorem sV_ext {op : Nat → (Nat → Nat) → Nat → Bool} (e : Nat) : ∀ (d t : Nat) (r : Nat → Nat), (∀ u r s, t + d ≤ u → op u r s = false) → (∀ u, t + d ≤ u → r u = 0) → sV op (d + e) t r = sV op d t r
  | 0, t, r, h1, h2 => by
    rw [Nat.zero_add, sV_none e t r (fun u r s hu => h1 u r s (by omega)) (fun u hu => h2 u (by omega))]; rfl
  | d + 1, t, r, h1, h2 => by
    have ih : ∀ s, sV op (d + e) (t + 1) (su r t s) = sV op d (t + 1) (su r t s) := fun s => sV_ext e d (t + 1) (su r t s) (fun u r s hu => h1 u r s (by omega)) (fun u hu => by unfold su; rw [if_neg (by omega)]; exact h2 u (by omega))
    rw [show d + 1 + e = (d + e) + 1 by omega, sV, sV, ih 0]
    refine kfo_congr 31 _ (fun j a hj => ?_)
    rw [ih (j + 1)]
theorem sV_op {op op' : Nat → (Nat → Nat) → Nat → Bool} (h : ∀ t r i, i < 31 → op t r (i + 1) = op' t r (i + 1)) : ∀ (d t : Nat) (r : Nat → Nat), sV op d t r = sV op' d t r
  | 0, _, _ => rfl
  | d + 1, t, r => by
    rw [sV, sV, sV_op h d (t + 1) (su r t 0)]
    refine kfo_congr 31 _ (fun j a hj => ?_)
    rw [sV_op h d (t + 1) (su r t (j + 1)), h t r j hj]
theorem jdone_congr {q : tk_Q} {st st' : Nat → Int32} {m : Nat} (h : ∀ p, p < 5 → m.testBit p = true → st p = st' p) : jdone q st m = jdone q st' m := by
  have e1 : jsum st m = jsum st' m := by
    refine kfo_congr 5 0 (fun p a hp => ?_)
    by_cases z : m.testBit p = true
    · rw [h p hp z]
    · rw [if_neg z, if_neg z]
  have e2 : kall (fun p => !(m.testBit p) || jsu q (st p)) 5 = kall (fun p => !(m.testBit p) || jsu q (st' p)) 5 := by
    have : ∀ a b : Bool, (a = true ↔ b = true) → a = b := by decide
    apply this
    rw [kall_iff, kall_iff]
    refine forall_congr' (fun p => forall_congr' (fun hp => ?_))
    by_cases z : m.testBit p = true
    · rw [h p hp z]
    · simp [z]
  unfold jdone
  rw [e1, e2]
theorem sB_congr {T : Nat} {q : Nat → tk_Q} {st st' : Nat → Int32} {p : Nat} (hp : p < 32) (h : ∀ i, i < 5 → p.testBit i = true → st i = st' i) : sB T q st p = sB T q st' p := by
  unfold sB
  refine sV_op (fun t r i hi => ?_) T 0 _
  unfold sop
  congr 1
  unfold sway
  rw [kb_away2 p hp (i + 1) (by omega)]
  by_cases z : (i + 1) &&& p = i + 1
  · rw [jdone_congr (fun x hx hb => h x hx ((kb_andb (i + 1) (by omega) p hp).mp z x hx hb))]
  · simp only [decide_eq_false z, Bool.and_false]
/-- what the reference's search leaves alone -/
def mfr (G G2 : kg_G) : Prop := jLn G2 ∧ G2.1 = G.1 ∧ G2.2.2 = G.2.2 ∧ ∀ a, a < 33 ∨ 37 < a → G2.2.1 a = G.2.1 a
theorem mfr_refl {G : kg_G} (h : jLn G) : mfr G G := ⟨h, rfl, rfl, fun _ _ => rfl⟩
theorem mfr_trans {G G1 G2 : kg_G} (h : mfr G G1) (h' : mfr G1 G2) : mfr G G2 := ⟨h'.1, h'.2.1.trans h.2.1, h'.2.2.1.trans h.2.2.1, fun a ha => (h'.2.2.2 a ha).trans (h.2.2.2 a ha)⟩
theorem mfr_M {N : Nat} {G G1 : kg_G} {T np : Nat} {q : Nat → tk_Q} {D : jD} (h : jM N G T np q D) (hf : mfr G G1) : jM N G1 T np q D := jM_of h hf.1 (fun j => by rw [hf.2.1]) (fun a ha => hf.2.2.2 a (by
  have : a = 30 ∨ a = 31 ∨ a = 32 ∨ a = 38 := by simpa using ha
  omega))
theorem kB5 : kB 5 ≤ 9000000 := by decide +kernel
theorem m_layMost {N : Nat} {G : kg_G} {T np : Nat} {q : Nat → tk_Q} {D : jD} (h : jM N G T np q D) (hB : 10000000 < N) {p : Nat} (hp : p < 32) (hpk : p &&& jk D = p) : ∃ G2, fX11_layMost N G (nI p) = some (nI (sB T q (jst D) p).1, G2) ∧ mfr G G2 ∧ kbe (G2.2.1 36) (sB T q (jst D) p).2 := by
  obtain ⟨cs, ms, c1, c2, c3, c4⟩ := m_layChoices h hp hpk
  have h5 := h.2.1.1
  have h1 := kmm_M h c1 c2
  have l35 : (G.2.1 35).length = 5 := h.1 35 (by decide)
  have l36 : (G.2.1 36).length = 5 := h.1 36 (by decide)
  have l37 : (G.2.1 37).length = 5 := h.1 37 (by decide)
  have hw := m_walk h1 (p := p) c3 5 0 rfl (fun _ => 0) 0 (-1, fun i => ((G.2.1 36).getD i 0).toUInt32.toNat) (G.2.1 35) (G.2.1 36) ((G.2.1 37).set 0 0) (Nat.le_refl 0) ⟨by show (-1 : Int) ≤ -1; decide, by show (-1 : Int) ≤ 5; decide⟩ ⟨l35, fun i hi => by omega⟩ ⟨l36, fun i hi => kn_any _⟩ (by rw [List.length_set, l37]) (fun _ => by rw [getD_set (by omega), if_pos rfl]; rfl)
  obtain ⟨k, row, best, pl, k1, k2, k3, k4, k5, k6⟩ := hw
  have e5 : sV (sop (mway T q (jst D) p) (scl T q)) 5 0 (fun _ => 0) = sB T q (jst D) p := by
    have := sV_ext (op := sop (mway T q (jst D) p) (scl T q)) (5 - T) T 0 (fun _ => 0) (fun u r s hu => by
      unfold sop mway sway
      rw [decide_eq_false (show ¬ u < T by omega)]; rfl) (fun _ _ => rfl)
    rw [show T + (5 - T) = 5 by omega] at this
    exact this
  have es : svis (-1, fun i => ((G.2.1 36).getD i 0).toUInt32.toNat) (sW (sop (mway T q (jst D) p) (scl T q)) 5 0 ((0 : Nat) : Int) (fun _ => 0)) = (((sB T q (jst D) p).1 : Int), (sB T q (jst D) p).2) := by
    unfold svis sW
    rw [e5, if_pos (by show (-1 : Int) < ((0 : Nat) : Int) + ((sB T q (jst D) p).1 : Int); omega)]
    refine Prod.ext ?_ rfl
    show ((0 : Nat) : Int) + _ = _
    rw [Int.natCast_zero, Int.zero_add]
  rw [es] at k2 k4
  refine ⟨km (kmm G cs ms) row best pl, ?_, ⟨km_L h1.1 k3.1 k4.1 k5, rfl, rfl, fun a ha => ?_⟩, k4⟩
  · unfold fX11_layMost
    have g37 : (kmm G cs ms).2.1 37 = G.2.1 37 := rfl
    have p0 : kv_p (G.2.1 37) 0 0 = some ((G.2.1 37).set 0 0) := kn_p (i := 0) (by omega) (by omega)
    have es1 : km (kmm G cs ms) (G.2.1 35) (G.2.1 36) (G.2.1 37) = kmm G cs ms := km_self (kmm G cs ms)
    have hk := kB5
    obtain ⟨n, hn⟩ : ∃ n, N = n + 1 + k := ⟨N - k - 1, by omega⟩
    have e37 : kg_a (kmm G cs ms) 37 ((G.2.1 37).set 0 0) = km (kmm G cs ms) (G.2.1 35) (G.2.1 36) ((G.2.1 37).set 0 0) := by
      rw [← km_37 (kmm G cs ms) (G.2.1 35) (G.2.1 36) (G.2.1 37), es1]
    rw [c4, Option.bind_some, g37, p0, Option.bind_some, e37]
    have e19 : fX11_layMost_19 N N (km (kmm G cs ms) (G.2.1 35) (G.2.1 36) ((G.2.1 37).set 0 0)) (-1) 0 0 = fX11_layMost_19 N (n + 1 + k) (km (kmm G cs ms) (G.2.1 35) (G.2.1 36) ((G.2.1 37).set 0 0)) (-1) 0 0 := congrArg (fun z => fX11_layMost_19 N z (km (kmm G cs ms) (G.2.1 35) (G.2.1 36) ((G.2.1 37).set 0 0)) (-1) 0 0) hn
    refine Eq.trans e19 (Eq.trans (k2 (n + 1)) ?_)
    unfold fX11_layMost_105
    rw [if_pos (by decide), fX11_layMost_19, if_pos (by decide)]
    rfl
  · show (if a = 37 then pl else if a = 36 then best else if a = 35 then row else if a = 34 then ms else if a = 33 then cs else G.2.1 a) = _
    rw [if_neg (by omega), if_neg (by omega), if_neg (by omega), if_neg (by omega), if_neg (by omega)]
/-- what the class's search leaves alone -/
def xfr (G G2 : kg_G) : Prop := jLn G2 ∧ (∀ a j, a ≠ 17 → G2.1 a j = G.1 a j) ∧ G2.2.2 = G.2.2 ∧ ∀ a, a < 18 ∨ 21 < a → G2.2.1 a = G.2.1 a
/-- prepared by the class: any search goes from here -/
theorem x_prep2 {N : Nat} {G : kg_G} {T np : Nat} {q : Nat → tk_Q} {D : jD} (h : jX N G T np q D) (hA : G.2.1 22 = kp_T) : ∃ P, fX4_prepare N G G.2.2.2.1 = some P ∧ kpq P T q (kA G 4) ∧ jLn P ∧ (∀ aw v xs ys, xs.length = 5 → ys.length = 5 → xfr G (ks P aw v xs ys)) ∧ xfr G P := by
  obtain ⟨cs, ws, c1, c2, c3, c4⟩ := x_prepare h hA
  have hLP : jLn (kpp (kg_i G 17 5 (nI T)) cs ws) := jLn_a (jLn_a h.1 c1) c2
  have key : ∀ aw v xs ys, xs.length = 5 → ys.length = 5 → xfr G (ks (kpp (kg_i G 17 5 (nI T)) cs ws) aw v xs ys) := by
    intro aw v xs ys hx hy
    refine ⟨ks_len hLP hx hy, fun a j ha => ?_, rfl, fun a ha => ?_⟩
    · show (if a = 17 then _ else (if a = 17 then _ else (if a = 17 then _ else G.1 a j))) = _
      rw [if_neg ha, if_neg ha, if_neg ha]
    · show (if a = 19 then ys else if a = 18 then xs else if a = 20 then ws else if a = 21 then cs else G.2.1 a) = _
      rw [if_neg (by omega), if_neg (by omega), if_neg (by omega), if_neg (by omega)]
  refine ⟨_, c3, c4, hLP, key, ?_⟩
  have hk := key ((kpp (kg_i G 17 5 (nI T)) cs ws).1 17 6) ((kpp (kg_i G 17 5 (nI T)) cs ws).1 17 7) ((kpp (kg_i G 17 5 (nI T)) cs ws).2.1 18) ((kpp (kg_i G 17 5 (nI T)) cs ws).2.1 19) (hLP 18 (by decide)) (hLP 19 (by decide))
  rw [ks_self] at hk
  exact hk
