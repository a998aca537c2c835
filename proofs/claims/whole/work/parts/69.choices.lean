/-! THE REFERENCE'S SEARCH: the choices of each trick -/
def kc (w : Nat → Bool) : Nat → List Nat
  | 0 => [0]
  | m + 1 => if w (m + 1) then kc w m ++ [m + 1] else kc w m
theorem kc_fold {α : Type} (w : Nat → Bool) (f : α → Nat → α) (b : α) : ∀ m, (kc w m).foldl f b = kfo (fun i b => if w (i + 1) then f b (i + 1) else b) m (f b 0)
  | 0 => rfl
  | m + 1 => by
    rw [kc, kfo, ← kc_fold w f b m]
    by_cases z : w (m + 1) = true
    · rw [if_pos z, if_pos z, List.foldl_append]; rfl
    · rw [if_neg z, if_neg z]
theorem kc_none {w : Nat → Bool} (h : ∀ s, w s = false) : ∀ m, kc w m = [0]
  | 0 => rfl
  | m + 1 => by rw [kc, h, if_neg (by decide), kc_none h m]
theorem kc_mono {w w' : Nat → Bool} (h : ∀ s, w s = true → w' s = true) : ∀ m, (kc w m).length ≤ (kc w' m).length
  | 0 => Nat.le_refl _
  | m + 1 => by
    have := kc_mono h m
    rw [kc, kc]
    by_cases z : w (m + 1) = true
    · rw [if_pos z, if_pos (h _ z), List.length_append, List.length_append]; exact Nat.add_le_add_right this 1
    · rw [if_neg z]
      split
      · rw [List.length_append]; omega
      · exact this
theorem kc_grow {w : Nat → Bool} {m m' : Nat} (h : m ≤ m') : (kc w m).length ≤ (kc w m').length := by
  induction h with
  | refl => exact Nat.le_refl _
  | step _ ih =>
    rw [kc]
    split
    · rw [List.length_append]; omega
    · exact ih
theorem kc_crew : (kc (fun s => decide (fJ6_bitCount_0f7a4 (nI s) = 1)) 31).length ≤ 11 ∧ (kc (fun s => decide (fJ6_bitCount_0f7a4 (nI s) = 2)) 31).length ≤ 11 := by decide +kernel
theorem kc_11 {w : Nat → Bool} {q : tk_Q} (h : ∀ s, w s = true → fJ6_bitCount_0f7a4 (nI s) = tk_crew q) {m : Nat} (hm : m ≤ 31) : (kc w m).length ≤ 11 := by
  refine Nat.le_trans (kc_grow hm) ?_
  rcases tk_crew12 q with e | e
  · exact Nat.le_trans (kc_mono (w' := fun s => decide (fJ6_bitCount_0f7a4 (nI s) = 1)) (fun s hs => decide_eq_true (by rw [← e]; exact h s hs)) 31) kc_crew.1
  · exact Nat.le_trans (kc_mono (w' := fun s => decide (fJ6_bitCount_0f7a4 (nI s) = 2)) (fun s hs => decide_eq_true (by rw [← e]; exact h s hs)) 31) kc_crew.2
theorem kc_pos (w : Nat → Bool) : ∀ m, 1 ≤ (kc w m).length
  | 0 => Nat.le_refl 1
  | m + 1 => by
    have := kc_pos w m
    rw [kc]
    split
    · rw [List.length_append]; omega
    · exact this
theorem kc_mem (w : Nat → Bool) : ∀ m s, s ∈ kc w m → s = 0 ∨ (s ≤ m ∧ w s = true)
  | 0, s, h => by
    left
    simpa [kc] using h
  | m + 1, s, h => by
    rw [kc] at h
    by_cases z : w (m + 1) = true
    · rw [if_pos z] at h
      rcases List.mem_append.mp h with y | y
      · rcases kc_mem w m s y with e | ⟨e1, e2⟩
        · exact Or.inl e
        · exact Or.inr ⟨by omega, e2⟩
      · have : s = m + 1 := by simpa using y
        subst this
        exact Or.inr ⟨Nat.le_refl _, z⟩
    · rw [if_neg z] at h
      rcases kc_mem w m s h with e | ⟨e1, e2⟩
      · exact Or.inl e
      · exact Or.inr ⟨by omega, e2⟩
/-- a trick's choices lie there -/
def klv (cs ms : List Int32) (t : Nat) (l : List Nat) : Prop := ms.getD t 0 = nI l.length ∧ ∀ p, p < l.length → cs.getD (16 * t + p) 0 = nI (l.getD p 0)
abbrev kmm (G : kg_G) (cs ms : List Int32) : kg_G := kg_a (kg_a G 33 cs) 34 ms
theorem kmm_33 (G : kg_G) (cs ms cs2 : List Int32) : kg_a (kmm G cs ms) 33 cs2 = kmm G cs2 ms := by
  unfold kmm kg_a
  refine congrArg (fun z => (G.1, z, G.2.2)) ?_
  funext b
  show (if b = 33 then cs2 else if b = 34 then ms else if b = 33 then cs else G.2.1 b) = (if b = 34 then ms else if b = 33 then cs2 else G.2.1 b)
  by_cases h1 : b = 33
  · subst h1; rfl
  · rw [if_neg h1, if_neg h1, if_neg h1]
theorem kmm_34 (G : kg_G) (cs ms ms2 : List Int32) : kg_a (kmm G cs ms) 34 ms2 = kmm G cs ms2 := kg_aa _ _ _ _
theorem kmm_self (G : kg_G) : kmm G (G.2.1 33) (G.2.1 34) = G := by
  unfold kmm
  rw [kg_as]
  exact kg_as G 34
/-- the ways of a trick for some people, as the reference has them -/
abbrev mway (T : Nat) (q : Nat → tk_Q) (st : Nat → Int32) (p t s : Nat) : Bool := sway T q st (31 ^^^ p) t s
theorem sway_crew {T : Nat} {q : Nat → tk_Q} {st : Nat → Int32} {aw t : Nat} : ∀ s, sway T q st aw t s = true → fJ6_bitCount_0f7a4 (nI s) = tk_crew (q t) := by
  intro s h
  unfold sway jdone at h
  simp only [Bool.and_eq_true, decide_eq_true_eq] at h
  exact h.2.1.1.1
theorem getD_app {l : List Nat} {x p : Nat} : (l ++ [x]).getD p 0 = if p < l.length then l.getD p 0 else if p = l.length then x else 0 := by
  rw [List.getD_eq_getElem?_getD, List.getD_eq_getElem?_getD]
  by_cases h : p < l.length
  · rw [if_pos h, List.getElem?_append_left h]
  · rw [if_neg h, List.getElem?_append_right (by omega)]
    by_cases e : p = l.length
    · rw [if_pos e, e, Nat.sub_self]; rfl
    · rw [if_neg e, List.getElem?_eq_none (by simp; omega)]; rfl
section MC
variable {N : Nat} {G : kg_G} {T np : Nat} {q : Nat → tk_Q} {D : jD}
theorem kmm_M (h : jM N G T np q D) {cs ms : List Int32} (hc : cs.length = 80) (hm : ms.length = 5) : jM N (kmm G cs ms) T np q D := jM_of h (jLn_a (jLn_a h.1 hc) hm) (fun _ => rfl) (by simp [kmm, kg_a])
theorem m_lay26 (h : jM N G T np q D) {p : Nat} (hp : p < 32) (hpk : p &&& jk D = p) {cs ms : List Int32} (hc : cs.length = 80) (hm : ms.length = 5) {t : Nat} (ht : t < 5) (hlv : klv cs ms t [0]) (hlt : ∀ u, u < t → klv cs ms u (kc (mway T q (jst D) p u) 31)) (k2 : kg_G → Int32 → Int32 → Option kg_G) : ∃ cs' ms', cs'.length = 80 ∧ ms'.length = 5 ∧ (∀ u, u < t + 1 → klv cs' ms' u (kc (mway T q (jst D) p u) 31)) ∧ fX11_layChoices_26 N k2 N (kmm G cs ms) (nI p) (nI t) 1 = k2 (kmm G cs' ms') (nI p) (nI (t + 1)) := by
  have hN := h.2.2.2.2.2
  have h5 := h.2.1.1
  have hkd := jk32 h.2.2.2.2.1 h.2.1
  have g3 : ∀ cs ms, (kmm G cs ms).1 28 3 = nI T := fun _ _ => h.2.2.1.1
  by_cases htT : t < T
  rotate_left
  · have ew : ∀ s, mway T q (jst D) p t s = false := by
      intro s
      unfold mway sway
      rw [decide_eq_false htT]; rfl
    refine ⟨cs, ms, hc, hm, fun u hu => ?_, ?_⟩
    · by_cases e : u = t
      · rw [e, kc_none ew]; exact hlv
      · exact hlt u (by omega)
    · obtain ⟨n, hn⟩ : ∃ n, N = n + 1 := ⟨N - 1, by omega⟩
      have q1 : ¬ (32 : Int32) ≤ 1 := by decide
      have : fX11_layChoices_26 N k2 (n + 1) (kmm G cs ms) (nI p) (nI t) 1 = k2 (kmm G cs ms) (nI p) (nI (t + 1)) := by
        rw [fX11_layChoices_26, if_neg q1, g3, if_pos (by rw [kn_le (by omega) (by omega)]; omega), kn_succ]
      rw [← hn] at this
      exact this
  obtain ⟨a', e1, _, cs', ms', a1, a2, a3, a4, a5⟩ := kl_go (fun n g i => fX11_layChoices_26 N k2 n g (nI p) (nI t) i) (fun m g => 1 ≤ m ∧ ∃ cs' ms', g = kmm G cs' ms' ∧ cs'.length = 80 ∧ ms'.length = 5 ∧ klv cs' ms' t (kc (mway T q (jst D) p t) (m - 1)) ∧ ∀ u, u < t → klv cs' ms' u (kc (mway T q (jst D) p u) 31)) 32 (by
    intro n g m hm32 ⟨hm1, cs', ms', a1, a2, a3, a4, a5⟩
    obtain ⟨i, rfl⟩ : ∃ i, m = i + 1 := ⟨m - 1, by omega⟩
    rw [Nat.add_sub_cancel] at a4
    have q1 : ¬ (32 : Int32) ≤ nI (i + 1) := m_loop (m := 32) (by omega) hm32
    have hMg := kmm_M h a2 a3
    have h11 : (kc (mway T q (jst D) p t) i).length ≤ 11 := kc_11 sway_crew (by omega)
    have ekc : kc (mway T q (jst D) p t) (i + 1) = if mway T q (jst D) p t (i + 1) then kc (mway T q (jst D) p t) i ++ [i + 1] else kc (mway T q (jst D) p t) i := rfl
    have eout := kb_out (i + 1) hm32 p hp
    have eaw := kb_away2 p hp (i + 1) hm32
    have ew : mway T q (jst D) p t (i + 1) = (jdone (q t) (jst D) (i + 1) && decide ((i + 1) &&& p = i + 1)) := by
      unfold mway sway
      rw [decide_eq_true htT, eaw, Bool.true_and]
    by_cases zp : (i + 1) &&& p = i + 1
    · have hsk : (i + 1) &&& jk D = i + 1 := by
        rw [← zp, Nat.and_assoc, hpk]
      have hdb := m_isDoneBy hMg htT hm32 hsk
      have g33 : (kmm G cs' ms').2.1 33 = cs' := rfl
      have g34 : (kmm G cs' ms').2.1 34 = ms' := rfl
      by_cases zd : jdone (q t) (jst D) (i + 1) = true
      · have ewt : mway T q (jst D) p t (i + 1) = true := by rw [ew, zd, decide_eq_true zp]; rfl
        rw [ewt, if_pos rfl] at ekc
        refine ⟨kmm G (cs'.set (16 * t + (kc (mway T q (jst D) p t) i).length) (nI (i + 1))) (ms'.set t (nI ((kc (mway T q (jst D) p t) i).length + 1))), ?_, by omega, _, _, rfl, by rw [List.length_set, a2], by rw [List.length_set, a3], ⟨?_, ?_⟩, ?_⟩
        · show fX11_layChoices_26 N k2 (n + 1) g (nI p) (nI t) (nI (i + 1)) = fX11_layChoices_26 N k2 n _ (nI p) (nI t) (nI (i + 1 + 1))
          rw [a1, fX11_layChoices_26, if_neg q1, g3, if_neg (m_loop (by omega) htT), if_pos (eout.mpr zp), hdb, Option.bind_some, if_pos zd, if_neg (by decide), g34, kn_g (by omega) (by omega), Option.bind_some, a4.1, kn_16, kn_add, g33, kn_p (by omega) (by omega), Option.bind_some, Option.bind_some, kn_succ, kn_p (by omega) (by omega), Option.bind_some, kmm_33, kmm_34, kn_succ]
        · rw [getD_set (by omega), if_pos rfl, Nat.add_sub_cancel, ekc, List.length_append]; rfl
        · intro x hx
          rw [Nat.add_sub_cancel, ekc] at hx ⊢
          rw [List.length_append] at hx
          have hx' : x < (kc (mway T q (jst D) p t) i).length + 1 := hx
          rw [getD_set (by omega), getD_app]
          by_cases y : x = (kc (mway T q (jst D) p t) i).length
          · rw [if_pos (by omega), if_neg (by omega), if_pos y]
          · rw [if_neg (by omega), if_pos (by omega)]
            exact a4.2 x (by omega)
        · intro u hu
          have h11u : (kc (mway T q (jst D) p u) 31).length ≤ 11 := kc_11 sway_crew (Nat.le_refl 31)
          refine ⟨?_, fun x hx => ?_⟩
          · rw [getD_set (by omega), if_neg (by omega)]; exact (a5 u hu).1
          · rw [getD_set (by omega), if_neg (by omega)]; exact (a5 u hu).2 x hx
      · have ewf : mway T q (jst D) p t (i + 1) = false := by
          rw [ew]
          cases e : jdone (q t) (jst D) (i + 1)
          · rfl
          · exact absurd e zd
        rw [ewf, if_neg (by decide)] at ekc
        refine ⟨g, ?_, by omega, cs', ms', a1, a2, a3, by rw [Nat.add_sub_cancel, ekc]; exact a4, a5⟩
        show fX11_layChoices_26 N k2 (n + 1) g (nI p) (nI t) (nI (i + 1)) = fX11_layChoices_26 N k2 n g (nI p) (nI t) (nI (i + 1 + 1))
        rw [a1, fX11_layChoices_26, if_neg q1, g3, if_neg (m_loop (by omega) htT), if_pos (eout.mpr zp), hdb, Option.bind_some, if_neg zd, if_pos rfl, kn_succ]
    · have ewf : mway T q (jst D) p t (i + 1) = false := by
        rw [ew, decide_eq_false zp, Bool.and_false]
      rw [ewf, if_neg (by decide)] at ekc
      refine ⟨g, ?_, by omega, cs', ms', a1, a2, a3, by rw [Nat.add_sub_cancel, ekc]; exact a4, a5⟩
      show fX11_layChoices_26 N k2 (n + 1) g (nI p) (nI t) (nI (i + 1)) = fX11_layChoices_26 N k2 n g (nI p) (nI t) (nI (i + 1 + 1))
      rw [a1, fX11_layChoices_26, if_neg q1, g3, if_neg (m_loop (by omega) htT), if_neg (fun y => zp (eout.mp y)), kn_succ]) 31 1 N (kmm G cs ms) (by omega) (by omega) ⟨Nat.le_refl 1, cs, ms, rfl, hc, hm, hlv, hlt⟩
  refine ⟨cs', ms', a2, a3, fun u hu => ?_, ?_⟩
  · by_cases e : u = t
    · rw [e]; exact a4
    · exact a5 u (by omega)
  · refine Eq.trans e1 ?_
    show fX11_layChoices_26 N k2 (N - 31) a' (nI p) (nI t) (nI 32) = _
    obtain ⟨n', hn'⟩ : ∃ n', N - 31 = n' + 1 := ⟨N - 32, by omega⟩
    rw [hn', a1, fX11_layChoices_26, if_pos (by decide), kn_succ]
theorem m_layChoices (h : jM N G T np q D) {p : Nat} (hp : p < 32) (hpk : p &&& jk D = p) : ∃ cs ms, cs.length = 80 ∧ ms.length = 5 ∧ (∀ u, u < 5 → klv cs ms u (kc (mway T q (jst D) p u) 31)) ∧ fX11_layChoices N G (nI p) = some (kmm G cs ms) := by
  have hN := h.2.2.2.2.2
  have l33 : (G.2.1 33).length = 80 := h.1 33 (by decide)
  have l34 : (G.2.1 34).length = 5 := h.1 34 (by decide)
  obtain ⟨n', g, e1, cs, ms, a1, a2, a3, a4⟩ := kl_inv (fun n g i => fX11_layChoices_2 N n g (nI p) i) (fun j g => ∃ cs ms, g = kmm G cs ms ∧ cs.length = 80 ∧ ms.length = 5 ∧ ∀ u, u < j → klv cs ms u (kc (mway T q (jst D) p u) 31)) 5 (n := N) (a := G) (by omega) ⟨_, _, (kmm_self G).symm, l33, l34, fun u hu => by omega⟩ (by
    intro n g j hj ⟨cs, ms, a1, a2, a3, a4⟩
    obtain ⟨cs', ms', b1, b2, b3, b4⟩ := m_lay26 h hp hpk (cs := cs.set (16 * j) 0) (ms := ms.set j 1) (by rw [List.length_set, a2]) (by rw [List.length_set, a3]) hj ⟨by rw [getD_set (by omega), if_pos rfl]; rfl, fun x hx => by
      have : x = 0 := by simpa using hx
      subst this
      rw [getD_set (by omega), if_pos (by omega)]; rfl⟩ (fun u hu => by
      have h11u : (kc (mway T q (jst D) p u) 31).length ≤ 11 := kc_11 sway_crew (Nat.le_refl 31)
      refine ⟨?_, fun x hx => ?_⟩
      · rw [getD_set (by omega), if_neg (by omega)]; exact (a4 u hu).1
      · rw [getD_set (by omega), if_neg (by omega)]; exact (a4 u hu).2 x hx) (fX11_layChoices_2 N n)
    refine ⟨_, ?_, cs', ms', rfl, b1, b2, b3⟩
    show fX11_layChoices_2 N (n + 1) g (nI p) (nI j) = _
    have q1 : ¬ (5 : Int32) ≤ nI j := m_loop (m := 5) (by omega) hj
    have g33 : (kmm G cs ms).2.1 33 = cs := rfl
    have g34 : (kmm G cs ms).2.1 34 = ms := rfl
    rw [a1, fX11_layChoices_2, if_neg q1, kn_16, g33, kn_p (by omega) (by omega), Option.bind_some, g34, kn_p (by omega) (by omega), Option.bind_some, kmm_33, kmm_34]
    exact b4)
  refine ⟨cs, ms, a2, a3, a4, ?_⟩
  refine Eq.trans e1 ?_
  show fX11_layChoices_2 N (n' + 1) g (nI p) (nI 5) = _
  rw [fX11_layChoices_2, if_pos (by decide), a1]
end MC
