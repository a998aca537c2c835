/-! THE ENGINE: a small machine over a list of cells; every rule is proved once from the kit's rows. -/
/-- a cell: ints, references to tricks, or an object (its place among vwCl, its fields) -/
abbrev kv_C : Type := List Int32 ⊕ (List (Option Nat) ⊕ (Nat × List Value))
abbrev kv_H : Type := List kv_C
/-- launch, places, int[], Trick[], the first new address, the text constant, its bytes -/
abbrev kv_Z : Type := Launch × va_G × ClassId × ClassId × Nat × Nat × Nat
abbrev kv_D (Z : kv_Z) : va_G := Z.2.1
abbrev kv_I (Z : kv_Z) : ClassId := Z.2.2.1
abbrev kv_T (Z : kv_Z) : ClassId := Z.2.2.2.1
abbrev kv_b (Z : kv_Z) : Nat := Z.2.2.2.2.1
abbrev kv_x (Z : kv_Z) : Nat := Z.2.2.2.2.2.1
abbrev kv_y (Z : kv_Z) : Nat := Z.2.2.2.2.2.2
def kv_r (Z : kv_Z) (v : Value) : Value := match v with
  | .ref a => .ref (kv_b Z + a)
  | .retAddr 0 => .ref (kv_x Z)
  | .retAddr (_ + 1) => .ref (kv_y Z)
  | .int x => .int x
  | .long x => .long x
  | .float x => .float x
  | .double x => .double x
  | .null => .null
theorem kv_r_cat (Z : kv_Z) (v : Value) : (kv_r Z v).category = v.category := by
  cases v with
  | retAddr k => cases k <;> rfl
  | _ => rfl
def kv_cv (Z : kv_Z) (c : kv_C) : va_E := match c with
  | .inl xs => .inl (kv_I Z, xs.length, .inl (fun k => xs.getD k 0))
  | .inr (.inl rs) => .inl (kv_T Z, rs.length, .inr (.inr (.inr (.inr (fun k => (rs.getD k none).map (kv_b Z + ·))))))
  | .inr (.inr q) => .inr (q.1, q.2.map (kv_r Z))
def kv_wf (Z : kv_Z) : Nat → kv_H → va_W
  | _, [] => []
  | n, c :: l => (kv_b Z + n, kv_cv Z c) :: kv_wf Z (n + 1) l
abbrev kv_w (Z : kv_Z) (h : kv_H) : va_W := kv_wf Z 0 h
theorem kv_wf_get (Z : kv_Z) : ∀ (h : kv_H) (n k : Nat), (kv_wf Z n h)[k]? = (h[k]?).map (fun c => (kv_b Z + (n + k), kv_cv Z c))
  | [], n, k => by simp [kv_wf]
  | c :: l, n, 0 => by simp [kv_wf]
  | c :: l, n, k + 1 => by
    rw [kv_wf, List.getElem?_cons_succ, List.getElem?_cons_succ, kv_wf_get Z l (n + 1) k]
    congr 2
    funext c
    rw [show n + 1 + k = n + (k + 1) by omega]
theorem kv_w_get {Z : kv_Z} {h : kv_H} {k : Nat} {c : kv_C} (hk : h[k]? = some c) : (kv_w Z h)[k]? = some (kv_b Z + k, kv_cv Z c) := by
  rw [kv_wf_get, hk]; simp
theorem kv_wf_set (Z : kv_Z) : ∀ (h : kv_H) (n k : Nat) (c : kv_C), (kv_wf Z n h).set k (kv_b Z + (n + k), kv_cv Z c) = kv_wf Z n (h.set k c)
  | [], n, k, c => by simp [kv_wf]
  | d :: l, n, 0, c => by simp [kv_wf]
  | d :: l, n, k + 1, c => by
    rw [kv_wf, List.set_cons_succ, List.set_cons_succ, kv_wf, ← kv_wf_set Z l (n + 1) k c, show n + 1 + k = n + (k + 1) by omega]
theorem kv_w_set (Z : kv_Z) (h : kv_H) (k : Nat) (c : kv_C) : (kv_w Z h).set k (kv_b Z + k, kv_cv Z c) = kv_w Z (h.set k c) := by
  have e := kv_wf_set Z h 0 k c
  rw [Nat.zero_add] at e
  exact e
theorem kv_wf_app (Z : kv_Z) : ∀ (h : kv_H) (n : Nat) (c : kv_C), kv_wf Z n (h ++ [c]) = kv_wf Z n h ++ [(kv_b Z + (n + h.length), kv_cv Z c)]
  | [], n, c => by simp [kv_wf]
  | d :: l, n, c => by
    rw [List.cons_append, kv_wf, kv_wf_app Z l (n + 1) c, kv_wf, List.cons_append, List.length_cons, show n + 1 + l.length = n + (l.length + 1) by omega]
theorem kv_w_app (Z : kv_Z) (h : kv_H) (c : kv_C) : kv_w Z (h ++ [c]) = kv_w Z h ++ [(kv_b Z + h.length, kv_cv Z c)] := by
  have e := kv_wf_app Z h 0 c
  rw [Nat.zero_add] at e
  exact e
abbrev kv_A (Z : kv_Z) : Nat → Prop := fun q => kv_b Z ≤ q
theorem kv_w_D (Z : kv_Z) (h : kv_H) : va_D (kv_A Z) (kv_w Z h) := by
  have key : ∀ (k : Nat) (q : Nat × va_E), (kv_w Z h)[k]? = some q → q.1 = kv_b Z + k := by
    intro k q hq
    rw [kv_wf_get] at hq
    cases hc : h[k]? with
    | none => rw [hc] at hq; cases hq
    | some c => rw [hc] at hq; cases hq; simp
  refine ⟨fun i j x y hx hy e => ?_, fun k q hq => ?_⟩
  · have h1 := key i x hx
    have h2 := key j y hy
    omega
  · have h1 := key k q hq
    show kv_b Z ≤ q.1
    omega
/-- how many fields and elements -/
def kv_cs (c : kv_C) : Nat := match c with
  | .inl xs => xs.length
  | .inr (.inl rs) => rs.length
  | .inr (.inr q) => q.2.length
def kv_sl : kv_H → Nat
  | [] => 0
  | c :: l => kv_cs c + kv_sl l
theorem kv_sl_set : ∀ (h : kv_H) (k : Nat) (c d : kv_C), h[k]? = some d → kv_cs c = kv_cs d → kv_sl (h.set k c) = kv_sl h
  | [], k, c, d, hk, e => by simp at hk
  | x :: l, 0, c, d, hk, e => by
    simp only [List.getElem?_cons_zero, Option.some.injEq] at hk
    subst hk
    simp [kv_sl, e]
  | x :: l, k + 1, c, d, hk, e => by
    rw [List.getElem?_cons_succ] at hk
    rw [List.set_cons_succ, kv_sl, kv_sl, kv_sl_set l k c d hk e]
theorem kv_sl_app : ∀ (h : kv_H) (c : kv_C), kv_sl (h ++ [c]) = kv_sl h + kv_cs c
  | [], c => by simp [kv_sl]
  | x :: l, c => by rw [List.cons_append, kv_sl, kv_sl, kv_sl_app l c]; omega
/-- locals, by their places -/
def kv_as (Z : kv_Z) : Nat → List (Option Value) → List (Nat × Value)
  | _, [] => []
  | n, none :: l => kv_as Z (n + 1) l
  | n, some v :: l => (n, kv_r Z v) :: kv_as Z (n + 1) l
theorem kv_as_mem (Z : kv_Z) : ∀ (l : List (Option Value)) (n i : Nat) (w : Value), (i, w) ∈ kv_as Z n l ↔ ∃ (k : Nat) (v : Value), i = n + k ∧ l[k]? = some (some v) ∧ w = kv_r Z v
  | [], n, i, w => by simp [kv_as]
  | none :: l, n, i, w => by
    rw [kv_as, kv_as_mem Z l (n + 1) i w]
    constructor
    · rintro ⟨k, v, h1, h2, h3⟩
      exact ⟨k + 1, v, by omega, by simpa using h2, h3⟩
    · rintro ⟨k, v, h1, h2, h3⟩
      cases k with
      | zero => simp at h2
      | succ k => exact ⟨k, v, by omega, by simpa using h2, h3⟩
  | some u :: l, n, i, w => by
    rw [kv_as, List.mem_cons, kv_as_mem Z l (n + 1) i w]
    constructor
    · rintro (h | ⟨k, v, h1, h2, h3⟩)
      · cases h
        exact ⟨0, u, rfl, rfl, rfl⟩
      · exact ⟨k + 1, v, by omega, by simpa using h2, h3⟩
    · rintro ⟨k, v, h1, h2, h3⟩
      cases k with
      | zero =>
        simp only [List.getElem?_cons_zero, Option.some.injEq] at h2
        subst h2
        exact Or.inl (by rw [h1, h3]; rfl)
      | succ k => exact Or.inr ⟨k, v, by omega, by simpa using h2, h3⟩
def kv_L (Z : kv_Z) (L : Array Slot) (n : Nat) (ls : List (Option Value)) : Prop := lv_has L n (kv_as Z 0 ls)
theorem kv_L_at {Z : kv_Z} {L : Array Slot} {n i : Nat} {ls : List (Option Value)} {v : Value} (h : kv_L Z L n ls) (hi : ls[i]? = some (some v)) : L[i]? = some (.val (kv_r Z v)) :=
  h.2.2 (i, kv_r Z v) ((kv_as_mem Z ls 0 i _).mpr ⟨i, v, by omega, hi, rfl⟩)
/-- a long ahead of a place is lost when the place is written -/
def kv_cl (ls : List (Option Value)) (i : Nat) : List (Option Value) := match i with
  | 0 => ls
  | j + 1 => match ls[j]? with
    | some (some (.long _)) => ls.set j none
    | some (some (.double _)) => ls.set j none
    | _ => ls
theorem kv_cl_get {ls : List (Option Value)} {i j : Nat} {v : Value} (h : (kv_cl ls i)[j]? = some (some v)) : ls[j]? = some (some v) ∧ ¬ (j + 1 = i ∧ v.category = 2) := by
  cases i with
  | zero => exact ⟨h, fun z => absurd z.1 (by omega)⟩
  | succ i =>
    have gen : ∀ w : Value, w.category = 2 → ls[i]? = some (some w) → (ls.set i none)[j]? = some (some v) → ls[j]? = some (some v) ∧ ¬ (j + 1 = i + 1 ∧ v.category = 2) := by
      intro w hw hi hj
      by_cases e : i = j
      · subst e
        rw [List.getElem?_set_self (List.getElem?_eq_some_iff.mp hi).1] at hj
        cases hj
      · rw [List.getElem?_set_ne e] at hj
        exact ⟨hj, fun z => e (by omega)⟩
    have oth : (∀ w : Value, ls[i]? = some (some w) → w.category = 1) → ls[j]? = some (some v) → ls[j]? = some (some v) ∧ ¬ (j + 1 = i + 1 ∧ v.category = 2) := by
      intro hw hj
      refine ⟨hj, fun z => ?_⟩
      have e : j = i := by omega
      subst e
      have := hw v hj
      omega
    cases hc : ls[i]? with
    | none => exact oth (fun w hw => by rw [hc] at hw; cases hw) (by simpa [kv_cl, hc] using h)
    | some o =>
      cases o with
      | none => exact oth (fun w hw => by rw [hc] at hw; cases hw) (by simpa [kv_cl, hc] using h)
      | some w =>
        cases w with
        | long x => exact gen _ rfl hc (by simpa [kv_cl, hc] using h)
        | double x => exact gen _ rfl hc (by simpa [kv_cl, hc] using h)
        | _ => exact oth (fun w hw => by rw [hc] at hw; cases hw; rfl) (by simpa [kv_cl, hc] using h)
def kv_s1 (ls : List (Option Value)) (i : Nat) (v : Value) : List (Option Value) := (kv_cl ls i).set i (some v)
def kv_s2 (ls : List (Option Value)) (i : Nat) (v : Value) : List (Option Value) := ((kv_cl ls i).set (i + 1) none).set i (some v)
theorem kv_L_s1 {Z : kv_Z} {L L' : Array Slot} {n i : Nat} {ls : List (Option Value)} {v : Value} (h : lv_has L' n ((i, kv_r Z v) :: (kv_as Z 0 ls).filter (fun q => !(q.1 == i) && !(q.1 + 1 == i && q.2.category == 2)))) : kv_L Z L' n (kv_s1 ls i v) := by
  refine ⟨h.1, h.2.1, fun q hq => ?_⟩
  obtain ⟨j, w⟩ := q
  obtain ⟨k, u, e1, e2, e3⟩ := (kv_as_mem Z _ 0 j w).mp hq
  rw [Nat.zero_add] at e1
  subst e1
  by_cases hji : j = i
  · subst hji
    have hlt : j < (kv_cl ls j).length := by
      have := (List.getElem?_eq_some_iff.mp e2).1
      simpa [kv_s1] using this
    rw [kv_s1, List.getElem?_set_self hlt] at e2
    cases e2
    exact h.2.2 _ (by rw [e3]; exact List.mem_cons_self)
  · rw [kv_s1, List.getElem?_set_ne (Ne.symm hji)] at e2
    obtain ⟨g1, g2⟩ := kv_cl_get e2
    refine h.2.2 _ (List.mem_cons_of_mem _ (List.mem_filter.mpr ⟨(kv_as_mem Z _ 0 j w).mpr ⟨j, u, by omega, g1, e3⟩, ?_⟩))
    have hc : w.category = u.category := by rw [e3, kv_r_cat]
    simp only [hc]
    simp [hji]
    exact Decidable.not_and_iff_not_or_not.mp g2
theorem kv_L_s2 {Z : kv_Z} {L L' : Array Slot} {n i : Nat} {ls : List (Option Value)} {v : Value} (h : lv_has L' n ((i, kv_r Z v) :: (kv_as Z 0 ls).filter (fun q => !(q.1 == i) && (!(q.1 == i + 1) && !(q.1 + 1 == i && q.2.category == 2))))) : kv_L Z L' n (kv_s2 ls i v) := by
  refine ⟨h.1, h.2.1, fun q hq => ?_⟩
  obtain ⟨j, w⟩ := q
  obtain ⟨k, u, e1, e2, e3⟩ := (kv_as_mem Z _ 0 j w).mp hq
  rw [Nat.zero_add] at e1
  subst e1
  by_cases hji : j = i
  · subst hji
    have hlt : j < ((kv_cl ls j).set (j + 1) none).length := by
      have := (List.getElem?_eq_some_iff.mp e2).1
      simpa [kv_s2] using this
    rw [kv_s2, List.getElem?_set_self hlt] at e2
    cases e2
    exact h.2.2 _ (by rw [e3]; exact List.mem_cons_self)
  · rw [kv_s2, List.getElem?_set_ne (Ne.symm hji)] at e2
    by_cases hj1 : j = i + 1
    · subst hj1
      have hlt : i + 1 < (kv_cl ls i).length := by
        have := (List.getElem?_eq_some_iff.mp e2).1
        simpa using this
      rw [List.getElem?_set_self hlt] at e2
      cases e2
    · rw [List.getElem?_set_ne (Ne.symm hj1)] at e2
      obtain ⟨g1, g2⟩ := kv_cl_get e2
      refine h.2.2 _ (List.mem_cons_of_mem _ (List.mem_filter.mpr ⟨(kv_as_mem Z _ 0 j w).mpr ⟨j, u, by omega, g1, e3⟩, ?_⟩))
      have hc : w.category = u.category := by rw [e3, kv_r_cat]
      simp only [hc]
      simp [hji, hj1]
      exact Decidable.not_and_iff_not_or_not.mp g2
/-- fewer locals -/
def kv_sub : List (Option Value) → List (Option Value) → Prop
  | _, [] => True
  | [], none :: l => kv_sub [] l
  | [], some _ :: _ => False
  | _ :: k, none :: l => kv_sub k l
  | u :: k, some v :: l => u = some v ∧ kv_sub k l
theorem kv_sub_get : ∀ (k l : List (Option Value)), kv_sub k l → ∀ (i : Nat) (v : Value), l[i]? = some (some v) → k[i]? = some (some v)
  | _, [], _, i, v, h => by simp at h
  | [], none :: l, s, i, v, h => by
    cases i with
    | zero => simp at h
    | succ i =>
      have := kv_sub_get [] l s i v (by simpa using h)
      simp at this
  | [], some _ :: _, s, _, _, _ => s.elim
  | _ :: k, none :: l, s, i, v, h => by
    cases i with
    | zero => simp at h
    | succ i => simpa using kv_sub_get k l s i v (by simpa using h)
  | u :: k, some w :: l, s, i, v, h => by
    cases i with
    | zero => rw [s.1]; simpa using h
    | succ i => simpa using kv_sub_get k l s.2 i v (by simpa using h)
theorem kv_L_sub {Z : kv_Z} {L : Array Slot} {n : Nat} {k l : List (Option Value)} (h : kv_L Z L n k) (hs : kv_sub k l) : kv_L Z L n l := by
  refine ⟨h.1, h.2.1, fun q hq => ?_⟩
  obtain ⟨j, w⟩ := q
  obtain ⟨i, u, e1, e2, e3⟩ := (kv_as_mem Z _ 0 j w).mp hq
  exact h.2.2 _ ((kv_as_mem Z _ 0 j w).mpr ⟨i, u, e1, kv_sub_get k l hs i u e2, e3⟩)
