/-! THE WORLD: all cells of the class and of the reference, by what they hold -/
/-- int fields (by address and place), int rows (by address), the hash, the bill's address, what was made later -/
abbrev kg_G : Type := (Nat → Nat → Int32) × (Nat → List Int32) × Int64 × Nat × kv_H
abbrev kg_Y (G : kg_G) : kv_H := G.2.2.2.2
def kg_w (G : kg_G) : kv_H :=
  .inr (.inr (10, [.ref 1, .ref 3, .ref 10, .ref 17, .ref 23, .ref G.2.2.2.1, .int (G.1 0 6), .int (G.1 0 7), .int (G.1 0 8), .int (G.1 0 9), .int (G.1 0 10)])) ::
  .inr (.inr (2, [.ref 2, .int (G.1 1 1)])) ::
  .inl (G.2.1 2) ::
  .inr (.inr (9, [.ref 4, .ref 5, .ref 6, .ref 7, .ref 8, .ref 9, .int (G.1 3 6), .int (G.1 3 7), .int (G.1 3 8), .int (G.1 3 9), .int (G.1 3 10), .int (G.1 3 11), .int (G.1 3 12), .int (G.1 3 13)])) ::
  .inl (G.2.1 4) ::
  .inl (G.2.1 5) ::
  .inl (G.2.1 6) ::
  .inl (G.2.1 7) ::
  .inl (G.2.1 8) ::
  .inl (G.2.1 9) ::
  .inr (.inr (9, [.ref 11, .ref 12, .ref 13, .ref 14, .ref 15, .ref 16, .int (G.1 10 6), .int (G.1 10 7), .int (G.1 10 8), .int (G.1 10 9), .int (G.1 10 10), .int (G.1 10 11), .int (G.1 10 12), .int (G.1 10 13)])) ::
  .inl (G.2.1 11) ::
  .inl (G.2.1 12) ::
  .inl (G.2.1 13) ::
  .inl (G.2.1 14) ::
  .inl (G.2.1 15) ::
  .inl (G.2.1 16) ::
  .inr (.inr (4, [.ref 18, .ref 19, .ref 20, .ref 21, .ref 22, .int (G.1 17 5), .int (G.1 17 6), .int (G.1 17 7)])) ::
  .inl (G.2.1 18) ::
  .inl (G.2.1 19) ::
  .inl (G.2.1 20) ::
  .inl (G.2.1 21) ::
  .inl (G.2.1 22) ::
  .inr (.inr (7, [.ref 24, .ref 25, .int (G.1 23 2), .int (G.1 23 3), .int (G.1 23 4), .int (G.1 23 5)])) ::
  .inl (G.2.1 24) ::
  .inl (G.2.1 25) ::
  .inr (.inr (0, [.ref 27, .int 0])) ::
  .inr (.inl []) ::
  .inr (.inr (11, [.ref 29, .int (G.1 28 1), .int (G.1 28 2), .int (G.1 28 3), .int (G.1 28 4), .int (G.1 28 5), .int (G.1 28 6), .int (G.1 28 7), .int (G.1 28 8), .int (G.1 28 9), .int (G.1 28 10), .int (G.1 28 11), .ref 30, .ref 31, .ref 32, .int (G.1 28 15), .ref 33, .ref 34, .ref 35, .ref 36, .ref 37, .int (G.1 28 21), .int (G.1 28 22), .int (G.1 28 23), .ref 38, .int (G.1 28 25), .ref 39, .ref 40, .ref 41, .int (G.1 28 29), .int (G.1 28 30), .int (G.1 28 31), .int (G.1 28 32), .int (G.1 28 33), .int (G.1 28 34), .int (G.1 28 35), .int (G.1 28 36), .int (G.1 28 37), .ref 42, .ref 43, .ref 44, .long G.2.2.1])) ::
  .inl (G.2.1 29) ::
  .inl (G.2.1 30) ::
  .inl (G.2.1 31) ::
  .inl (G.2.1 32) ::
  .inl (G.2.1 33) ::
  .inl (G.2.1 34) ::
  .inl (G.2.1 35) ::
  .inl (G.2.1 36) ::
  .inl (G.2.1 37) ::
  .inl (G.2.1 38) ::
  .inl (G.2.1 39) ::
  .inl (G.2.1 40) ::
  .inl (G.2.1 41) ::
  .inl (G.2.1 42) ::
  .inl (G.2.1 43) ::
  .inl (G.2.1 44) :: G.2.2.2.2
def kg_i (G : kg_G) (a k : Nat) (v : Int32) : kg_G := (fun b j => if b = a then (if j = k then v else G.1 b j) else G.1 b j, G.2)
def kg_a (G : kg_G) (a : Nat) (xs : List Int32) : kg_G := (G.1, fun b => if b = a then xs else G.2.1 b, G.2.2)
def kg_h (G : kg_G) (x : Int64) : kg_G := (G.1, G.2.1, x, G.2.2.2)
def kg_b (G : kg_G) (b : Nat) : kg_G := (G.1, G.2.1, G.2.2.1, b, G.2.2.2.2)
def kg_y (G : kg_G) (Y : kv_H) : kg_G := (G.1, G.2.1, G.2.2.1, G.2.2.2.1, Y)
def kg_im (Y : kv_H) (b : Nat) : Option kv_C := if b = 26 then some (.inr (.inr (0, [.ref 27, .int 0]))) else if b = 27 then some (.inr (.inl [])) else if b < 45 then none else Y[b - 45]?
theorem kg_im_w {G : kg_G} {b : Nat} {c : kv_C} (h : kg_im (kg_Y G) b = some c) : (kg_w G)[b]? = some c := by
  unfold kg_im at h
  by_cases h1 : b = 26
  · rw [if_pos h1] at h; subst h1; exact h
  · rw [if_neg h1] at h
    by_cases h2 : b = 27
    · rw [if_pos h2] at h; subst h2; exact h
    · rw [if_neg h2] at h
      by_cases h3 : b < 45
      · rw [if_pos h3] at h; cases h
      · rw [if_neg h3] at h
        obtain ⟨k, rfl⟩ : ∃ k, b = k + 45 := ⟨b - 45, by omega⟩
        rw [Nat.add_sub_cancel] at h
        exact h
def kg_bl (Y : kv_H) (b : Nat) : Option (Nat × Int32) := match kg_im Y b with
  | some (.inr (.inr (0, [.ref t, .int p]))) => some (t, p)
  | _ => none
theorem kg_bl_w {G : kg_G} {b : Nat} {q : Nat × Int32} (h : kg_bl (kg_Y G) b = some q) : (kg_w G)[b]? = some (.inr (.inr (0, [.ref q.1, .int q.2]))) := by
  unfold kg_bl at h
  split at h
  · rename_i t p e
    cases h
    exact kg_im_w e
  · cases h
def kg_ta (Y : kv_H) (t : Nat) : Option (List (Option Nat)) := match kg_im Y t with
  | some (.inr (.inl xs)) => some xs
  | _ => none
theorem kg_ta_w {G : kg_G} {t : Nat} {xs : List (Option Nat)} (h : kg_ta (kg_Y G) t = some xs) : (kg_w G)[t]? = some (.inr (.inl xs)) := by
  unfold kg_ta at h
  split at h
  · rename_i ys e
    cases h
    exact kg_im_w e
  · cases h
def kg_tr (Y : kv_H) (a : Nat) : Option (Nat × Int32 × Int32 × Int32) := match kg_im Y a with
  | some (.inr (.inr (ci, [.int x, .int y, .int z]))) => if ci = 1 ∨ ci = 3 ∨ ci = 5 ∨ ci = 6 ∨ ci = 8 then some (ci, x, y, z) else none
  | _ => none
theorem kg_tr_w {G : kg_G} {a : Nat} {q : Nat × Int32 × Int32 × Int32} (h : kg_tr (kg_Y G) a = some q) : (kg_w G)[a]? = some (.inr (.inr (q.1, [.int q.2.1, .int q.2.2.1, .int q.2.2.2]))) ∧ (q.1 = 1 ∨ q.1 = 3 ∨ q.1 = 5 ∨ q.1 = 6 ∨ q.1 = 8) := by
  unfold kg_tr at h
  split at h
  · rename_i ci x y z e
    split at h
    · rename_i hc
      cases h
      exact ⟨kg_im_w e, hc⟩
    · cases h
  · cases h
def kg_arrs : List Nat := [2, 4, 5, 6, 7, 8, 9, 11, 12, 13, 14, 15, 16, 18, 19, 20, 21, 22, 24, 25, 29, 30, 31, 32, 33, 34, 35, 36, 37, 38, 39, 40, 41, 42, 43, 44]
theorem kg_arr_w {G : kg_G} {a : Nat} (h : a ∈ kg_arrs) : (kg_w G)[a]? = some (.inl (G.2.1 a)) := by
  simp only [kg_arrs, List.mem_cons, List.not_mem_nil, or_false] at h
  rcases h with rfl | rfl | rfl | rfl | rfl | rfl | rfl | rfl | rfl | rfl | rfl | rfl | rfl | rfl | rfl | rfl | rfl | rfl | rfl | rfl | rfl | rfl | rfl | rfl | rfl | rfl | rfl | rfl | rfl | rfl | rfl | rfl | rfl | rfl | rfl | rfl <;> rfl
def kg_ld (G : kg_G) (a : Nat) (i : Int32) : Option Int32 := if a ∈ kg_arrs then kv_g (G.2.1 a) i else none
def kg_sd (G : kg_G) (a : Nat) (i x : Int32) : Option kg_G := if a ∈ kg_arrs then (kv_p (G.2.1 a) i x).map (kg_a G a) else none
def kg_le (G : kg_G) (a : Nat) : Option Int32 := if a ∈ kg_arrs then some (nI (G.2.1 a).length) else none
theorem kg_arr_s {G : kg_G} {a : Nat} {ys : List Int32} (h : a ∈ kg_arrs) : (kg_w G).set a (.inl ys) = kg_w (kg_a G a ys) := by
  simp only [kg_arrs, List.mem_cons, List.not_mem_nil, or_false] at h
  rcases h with rfl | rfl | rfl | rfl | rfl | rfl | rfl | rfl | rfl | rfl | rfl | rfl | rfl | rfl | rfl | rfl | rfl | rfl | rfl | rfl | rfl | rfl | rfl | rfl | rfl | rfl | rfl | rfl | rfl | rfl | rfl | rfl | rfl | rfl | rfl | rfl <;> rfl
section KG
variable {Z : kv_Z} {d : Nat} {M : kv_Me} {pc : Nat} {ls : List (Option Value)} {st : List Value} {h' : kv_H} {r : Option Value} {idx : Nat} {G : kg_G}
theorem kx_ld {a : Nat} {i x : Int32} (hg : kg_ld G a i = some x) (hd : decode M.2.1 pc = .ok (.iaload, 1)) (kk : kv_V Z d M (pc + 1) ls (.int x :: st) (kg_w G) r h') : kv_V Z d M pc ls (.int i :: .ref a :: st) (kg_w G) r h' := by
  unfold kg_ld at hg
  by_cases ha : a ∈ kg_arrs
  · rw [if_pos ha] at hg; exact kr_iald (kg_arr_w ha) hg hd kk
  · rw [if_neg ha] at hg; cases hg
theorem kx_sd {a : Nat} {i x : Int32} {G2 : kg_G} (hg : kg_sd G a i x = some G2) (hd : decode M.2.1 pc = .ok (.iastore, 1)) (kk : kv_V Z d M (pc + 1) ls st (kg_w G2) r h') : kv_V Z d M pc ls (.int x :: .int i :: .ref a :: st) (kg_w G) r h' := by
  unfold kg_sd at hg
  by_cases ha : a ∈ kg_arrs
  · rw [if_pos ha] at hg
    obtain ⟨ys, h1, h2⟩ := Option.map_eq_some_iff.mp hg
    subst h2
    refine kr_iast (kg_arr_w ha) h1 hd ?_
    rw [kg_arr_s ha]
    exact kk
  · rw [if_neg ha] at hg; cases hg
theorem kx_le {a : Nat} {x : Int32} (hg : kg_le G a = some x) (hd : decode M.2.1 pc = .ok (.arraylength, 1)) (kk : kv_V Z d M (pc + 1) ls (.int x :: st) (kg_w G) r h') : kv_V Z d M pc ls (.ref a :: st) (kg_w G) r h' := by
  unfold kg_le at hg
  by_cases ha : a ∈ kg_arrs
  · rw [if_pos ha] at hg
    cases hg
    exact kr_alen (kg_arr_w ha) hd kk
  · rw [if_neg ha] at hg; cases hg
theorem kx_tl {t : Nat} {xs : List (Option Nat)} (hg : kg_ta (kg_Y G) t = some xs) (hd : decode M.2.1 pc = .ok (.arraylength, 1)) (kk : kv_V Z d M (pc + 1) ls (.int (nI xs.length) :: st) (kg_w G) r h') : kv_V Z d M pc ls (.ref t :: st) (kg_w G) r h' := kr_alenR (kg_ta_w hg) hd kk
theorem kx_ta {t x : Nat} {i : Int32} {xs : List (Option Nat)} (hg : kg_ta (kg_Y G) t = some xs) (hq : kv_q xs i = some x) (hd : decode M.2.1 pc = .ok (.aaload, 1)) (kk : kv_V Z d M (pc + 1) ls (.ref x :: st) (kg_w G) r h') : kv_V Z d M pc ls (.int i :: .ref t :: st) (kg_w G) r h' := kr_aald (kg_ta_w hg) hq hd kk
theorem kx_bt {b : Nat} {q : Nat × Int32} (hg : kg_bl (kg_Y G) b = some q) (hl : Cond.fieldLink M.1.cls idx "KeptVolunteers$Bill" "tricks" "[LKeptVolunteers$Trick;" ∈ kv_W) (hd : decode M.2.1 pc = .ok (.getfield idx, 3)) (kk : kv_V Z d M (pc + 3) ls (.ref q.1 :: st) (kg_w G) r h') : kv_V Z d M pc ls (.ref b :: st) (kg_w G) r h' := kr_getf (k := 0) (kg_bl_w hg) rfl rfl (by decide) kin0 hl hd kk
theorem kx_bp {b : Nat} {q : Nat × Int32} (hg : kg_bl (kg_Y G) b = some q) (hl : Cond.fieldLink M.1.cls idx "KeptVolunteers$Bill" "people" "I" ∈ kv_W) (hd : decode M.2.1 pc = .ok (.getfield idx, 3)) (kk : kv_V Z d M (pc + 3) ls (.int q.2 :: st) (kg_w G) r h') : kv_V Z d M pc ls (.ref b :: st) (kg_w G) r h' := kr_getf (k := 1) (kg_bl_w hg) rfl rfl (by decide) kin0 hl hd kk
theorem kx_t0 {a : Nat} {q : Nat × Int32 × Int32 × Int32} (hg : kg_tr (kg_Y G) a = some q) (hl : Cond.fieldLink M.1.cls idx "KeptVolunteers$Trick" "hour" "I" ∈ kv_W) (hd : decode M.2.1 pc = .ok (.getfield idx, 3)) (kk : kv_V Z d M (pc + 3) ls (.int q.2.1 :: st) (kg_w G) r h') : kv_V Z d M pc ls (.ref a :: st) (kg_w G) r h' := by
  obtain ⟨h1, h2⟩ := kg_tr_w hg
  obtain ⟨ci, x, y, z⟩ := q
  simp only at h2
  rcases h2 with rfl | rfl | rfl | rfl | rfl
  · exact kr_getf (k := 0) h1 rfl rfl (by decide) kin1 hl hd kk
  · exact kr_getf (k := 0) h1 rfl rfl (by decide) kin3 hl hd kk
  · exact kr_getf (k := 0) h1 rfl rfl (by decide) kin5 hl hd kk
  · exact kr_getf (k := 0) h1 rfl rfl (by decide) kin6 hl hd kk
  · exact kr_getf (k := 0) h1 rfl rfl (by decide) kin8 hl hd kk
theorem kx_t1 {a : Nat} {q : Nat × Int32 × Int32 × Int32} (hg : kg_tr (kg_Y G) a = some q) (hl : Cond.fieldLink M.1.cls idx "KeptVolunteers$Trick" "hours" "I" ∈ kv_W) (hd : decode M.2.1 pc = .ok (.getfield idx, 3)) (kk : kv_V Z d M (pc + 3) ls (.int q.2.2.1 :: st) (kg_w G) r h') : kv_V Z d M pc ls (.ref a :: st) (kg_w G) r h' := by
  obtain ⟨h1, h2⟩ := kg_tr_w hg
  obtain ⟨ci, x, y, z⟩ := q
  simp only at h2
  rcases h2 with rfl | rfl | rfl | rfl | rfl
  · exact kr_getf (k := 1) h1 rfl rfl (by decide) kin1 hl hd kk
  · exact kr_getf (k := 1) h1 rfl rfl (by decide) kin3 hl hd kk
  · exact kr_getf (k := 1) h1 rfl rfl (by decide) kin5 hl hd kk
  · exact kr_getf (k := 1) h1 rfl rfl (by decide) kin6 hl hd kk
  · exact kr_getf (k := 1) h1 rfl rfl (by decide) kin8 hl hd kk
theorem kx_t2 {a : Nat} {q : Nat × Int32 × Int32 × Int32} (hg : kg_tr (kg_Y G) a = some q) (hl : Cond.fieldLink M.1.cls idx "KeptVolunteers$Trick" "need" "I" ∈ kv_W) (hd : decode M.2.1 pc = .ok (.getfield idx, 3)) (kk : kv_V Z d M (pc + 3) ls (.int q.2.2.2 :: st) (kg_w G) r h') : kv_V Z d M pc ls (.ref a :: st) (kg_w G) r h' := by
  obtain ⟨h1, h2⟩ := kg_tr_w hg
  obtain ⟨ci, x, y, z⟩ := q
  simp only at h2
  rcases h2 with rfl | rfl | rfl | rfl | rfl
  · exact kr_getf (k := 2) h1 rfl rfl (by decide) kin1 hl hd kk
  · exact kr_getf (k := 2) h1 rfl rfl (by decide) kin3 hl hd kk
  · exact kr_getf (k := 2) h1 rfl rfl (by decide) kin5 hl hd kk
  · exact kr_getf (k := 2) h1 rfl rfl (by decide) kin6 hl hd kk
  · exact kr_getf (k := 2) h1 rfl rfl (by decide) kin8 hl hd kk
theorem kx_g0_0 (hl : Cond.fieldLink M.1.cls idx "KeptVolunteers" "page" "LKeptVolunteers$Page;" ∈ kv_W) (hd : decode M.2.1 pc = .ok (.getfield idx, 3)) (kk : kv_V Z d M (pc + 3) ls (.ref 1 :: st) (kg_w G) r h') : kv_V Z d M pc ls (.ref 0 :: st) (kg_w G) r h' := kr_getf (a := 0) (k := 0) rfl rfl rfl (by decide) kin10 hl hd kk
theorem kx_g0_1 (hl : Cond.fieldLink M.1.cls idx "KeptVolunteers" "troupe" "LKeptVolunteers$Troupe;" ∈ kv_W) (hd : decode M.2.1 pc = .ok (.getfield idx, 3)) (kk : kv_V Z d M (pc + 3) ls (.ref 3 :: st) (kg_w G) r h') : kv_V Z d M pc ls (.ref 0 :: st) (kg_w G) r h' := kr_getf (a := 0) (k := 1) rfl rfl rfl (by decide) kin10 hl hd kk
theorem kx_g0_2 (hl : Cond.fieldLink M.1.cls idx "KeptVolunteers" "picture" "LKeptVolunteers$Troupe;" ∈ kv_W) (hd : decode M.2.1 pc = .ok (.getfield idx, 3)) (kk : kv_V Z d M (pc + 3) ls (.ref 10 :: st) (kg_w G) r h') : kv_V Z d M pc ls (.ref 0 :: st) (kg_w G) r h' := kr_getf (a := 0) (k := 2) rfl rfl rfl (by decide) kin10 hl hd kk
theorem kx_g0_3 (hl : Cond.fieldLink M.1.cls idx "KeptVolunteers" "planner" "LKeptVolunteers$Planner;" ∈ kv_W) (hd : decode M.2.1 pc = .ok (.getfield idx, 3)) (kk : kv_V Z d M (pc + 3) ls (.ref 17 :: st) (kg_w G) r h') : kv_V Z d M pc ls (.ref 0 :: st) (kg_w G) r h' := kr_getf (a := 0) (k := 3) rfl rfl rfl (by decide) kin10 hl hd kk
theorem kx_g0_4 (hl : Cond.fieldLink M.1.cls idx "KeptVolunteers" "tour" "LKeptVolunteers$Tour;" ∈ kv_W) (hd : decode M.2.1 pc = .ok (.getfield idx, 3)) (kk : kv_V Z d M (pc + 3) ls (.ref 23 :: st) (kg_w G) r h') : kv_V Z d M pc ls (.ref 0 :: st) (kg_w G) r h' := kr_getf (a := 0) (k := 4) rfl rfl rfl (by decide) kin10 hl hd kk
theorem kx_g0_5 (v : Nat) (hv : G.2.2.2.1 = v) (hl : Cond.fieldLink M.1.cls idx "KeptVolunteers" "bill" "LKeptVolunteers$Bill;" ∈ kv_W) (hd : decode M.2.1 pc = .ok (.getfield idx, 3)) (kk : kv_V Z d M (pc + 3) ls (.ref v :: st) (kg_w G) r h') : kv_V Z d M pc ls (.ref 0 :: st) (kg_w G) r h' := by
  subst hv
  exact kr_getf (a := 0) (k := 5) rfl rfl rfl (by decide) kin10 hl hd kk
theorem kx_g0_6 (v : Int32) (hv : (G.1 0 6) = v) (hl : Cond.fieldLink M.1.cls idx "KeptVolunteers" "pictured" "Z" ∈ kv_W) (hd : decode M.2.1 pc = .ok (.getfield idx, 3)) (kk : kv_V Z d M (pc + 3) ls (.int v :: st) (kg_w G) r h') : kv_V Z d M pc ls (.ref 0 :: st) (kg_w G) r h' := by
  subst hv
  exact kr_getf (a := 0) (k := 6) rfl rfl rfl (by decide) kin10 hl hd kk
theorem kx_p0_6 {v : Int32} (hl : Cond.fieldLink M.1.cls idx "KeptVolunteers" "pictured" "Z" ∈ kv_W) (hz : narrow .boolean (.int v) = .int v) (hf : fits .boolean (.int v) = true) (hd : decode M.2.1 pc = .ok (.putfield idx, 3)) (kk : kv_V Z d M (pc + 3) ls st (kg_w (kg_i G 0 6 v)) r h') : kv_V Z d M pc ls (.int v :: .ref 0 :: st) (kg_w G) r h' := kr_putf (a := 0) (k := 6) (w := .int v) tyX10 tyX10_ok nmX10 rfl rfl (by decide) kin10 hl rfl hz hf (Nat.le_of_ble_eq_true rfl) hd kk
theorem kx_g0_7 (v : Int32) (hv : (G.1 0 7) = v) (hl : Cond.fieldLink M.1.cls idx "KeptVolunteers" "showsRead" "I" ∈ kv_W) (hd : decode M.2.1 pc = .ok (.getfield idx, 3)) (kk : kv_V Z d M (pc + 3) ls (.int v :: st) (kg_w G) r h') : kv_V Z d M pc ls (.ref 0 :: st) (kg_w G) r h' := by
  subst hv
  exact kr_getf (a := 0) (k := 7) rfl rfl rfl (by decide) kin10 hl hd kk
theorem kx_p0_7 {v : Int32} (hl : Cond.fieldLink M.1.cls idx "KeptVolunteers" "showsRead" "I" ∈ kv_W) (hd : decode M.2.1 pc = .ok (.putfield idx, 3)) (kk : kv_V Z d M (pc + 3) ls st (kg_w (kg_i G 0 7 v)) r h') : kv_V Z d M pc ls (.int v :: .ref 0 :: st) (kg_w G) r h' := kr_putf (a := 0) (k := 7) (w := .int v) tyX10 tyX10_ok nmX10 rfl rfl (by decide) kin10 hl rfl rfl rfl (Nat.le_of_ble_eq_true rfl) hd kk
theorem kx_g0_8 (v : Int32) (hv : (G.1 0 8) = v) (hl : Cond.fieldLink M.1.cls idx "KeptVolunteers" "mostsDone" "I" ∈ kv_W) (hd : decode M.2.1 pc = .ok (.getfield idx, 3)) (kk : kv_V Z d M (pc + 3) ls (.int v :: st) (kg_w G) r h') : kv_V Z d M pc ls (.ref 0 :: st) (kg_w G) r h' := by
  subst hv
  exact kr_getf (a := 0) (k := 8) rfl rfl rfl (by decide) kin10 hl hd kk
theorem kx_p0_8 {v : Int32} (hl : Cond.fieldLink M.1.cls idx "KeptVolunteers" "mostsDone" "I" ∈ kv_W) (hd : decode M.2.1 pc = .ok (.putfield idx, 3)) (kk : kv_V Z d M (pc + 3) ls st (kg_w (kg_i G 0 8 v)) r h') : kv_V Z d M pc ls (.int v :: .ref 0 :: st) (kg_w G) r h' := kr_putf (a := 0) (k := 8) (w := .int v) tyX10 tyX10_ok nmX10 rfl rfl (by decide) kin10 hl rfl rfl rfl (Nat.le_of_ble_eq_true rfl) hd kk
theorem kx_g0_9 (v : Int32) (hv : (G.1 0 9) = v) (hl : Cond.fieldLink M.1.cls idx "KeptVolunteers" "fewestsDone" "I" ∈ kv_W) (hd : decode M.2.1 pc = .ok (.getfield idx, 3)) (kk : kv_V Z d M (pc + 3) ls (.int v :: st) (kg_w G) r h') : kv_V Z d M pc ls (.ref 0 :: st) (kg_w G) r h' := by
  subst hv
  exact kr_getf (a := 0) (k := 9) rfl rfl rfl (by decide) kin10 hl hd kk
theorem kx_p0_9 {v : Int32} (hl : Cond.fieldLink M.1.cls idx "KeptVolunteers" "fewestsDone" "I" ∈ kv_W) (hd : decode M.2.1 pc = .ok (.putfield idx, 3)) (kk : kv_V Z d M (pc + 3) ls st (kg_w (kg_i G 0 9 v)) r h') : kv_V Z d M pc ls (.int v :: .ref 0 :: st) (kg_w G) r h' := kr_putf (a := 0) (k := 9) (w := .int v) tyX10 tyX10_ok nmX10 rfl rfl (by decide) kin10 hl rfl rfl rfl (Nat.le_of_ble_eq_true rfl) hd kk
theorem kx_g0_10 (v : Int32) (hv : (G.1 0 10) = v) (hl : Cond.fieldLink M.1.cls idx "KeptVolunteers" "sparesDone" "I" ∈ kv_W) (hd : decode M.2.1 pc = .ok (.getfield idx, 3)) (kk : kv_V Z d M (pc + 3) ls (.int v :: st) (kg_w G) r h') : kv_V Z d M pc ls (.ref 0 :: st) (kg_w G) r h' := by
  subst hv
  exact kr_getf (a := 0) (k := 10) rfl rfl rfl (by decide) kin10 hl hd kk
theorem kx_p0_10 {v : Int32} (hl : Cond.fieldLink M.1.cls idx "KeptVolunteers" "sparesDone" "I" ∈ kv_W) (hd : decode M.2.1 pc = .ok (.putfield idx, 3)) (kk : kv_V Z d M (pc + 3) ls st (kg_w (kg_i G 0 10 v)) r h') : kv_V Z d M pc ls (.int v :: .ref 0 :: st) (kg_w G) r h' := kr_putf (a := 0) (k := 10) (w := .int v) tyX10 tyX10_ok nmX10 rfl rfl (by decide) kin10 hl rfl rfl rfl (Nat.le_of_ble_eq_true rfl) hd kk
theorem kx_g1_0 (hl : Cond.fieldLink M.1.cls idx "KeptVolunteers$Page" "codes" "[I" ∈ kv_W) (hd : decode M.2.1 pc = .ok (.getfield idx, 3)) (kk : kv_V Z d M (pc + 3) ls (.ref 2 :: st) (kg_w G) r h') : kv_V Z d M pc ls (.ref 1 :: st) (kg_w G) r h' := kr_getf (a := 1) (k := 0) rfl rfl rfl (by decide) kin2 hl hd kk
theorem kx_g1_1 (v : Int32) (hv : (G.1 1 1) = v) (hl : Cond.fieldLink M.1.cls idx "KeptVolunteers$Page" "size" "I" ∈ kv_W) (hd : decode M.2.1 pc = .ok (.getfield idx, 3)) (kk : kv_V Z d M (pc + 3) ls (.int v :: st) (kg_w G) r h') : kv_V Z d M pc ls (.ref 1 :: st) (kg_w G) r h' := by
  subst hv
  exact kr_getf (a := 1) (k := 1) rfl rfl rfl (by decide) kin2 hl hd kk
theorem kx_p1_1 {v : Int32} (hl : Cond.fieldLink M.1.cls idx "KeptVolunteers$Page" "size" "I" ∈ kv_W) (hd : decode M.2.1 pc = .ok (.putfield idx, 3)) (kk : kv_V Z d M (pc + 3) ls st (kg_w (kg_i G 1 1 v)) r h') : kv_V Z d M pc ls (.int v :: .ref 1 :: st) (kg_w G) r h' := kr_putf (a := 1) (k := 1) (w := .int v) tyX2 tyX2_ok nmX2 rfl rfl (by decide) kin2 hl rfl rfl rfl (Nat.le_of_ble_eq_true rfl) hd kk
theorem kx_g3_0 (hl : Cond.fieldLink M.1.cls idx "KeptVolunteers$Troupe" "strong" "[I" ∈ kv_W) (hd : decode M.2.1 pc = .ok (.getfield idx, 3)) (kk : kv_V Z d M (pc + 3) ls (.ref 4 :: st) (kg_w G) r h') : kv_V Z d M pc ls (.ref 3 :: st) (kg_w G) r h' := kr_getf (a := 3) (k := 0) rfl rfl rfl (by decide) kin9 hl hd kk
theorem kx_g3_1 (hl : Cond.fieldLink M.1.cls idx "KeptVolunteers$Troupe" "town" "[I" ∈ kv_W) (hd : decode M.2.1 pc = .ok (.getfield idx, 3)) (kk : kv_V Z d M (pc + 3) ls (.ref 5 :: st) (kg_w G) r h') : kv_V Z d M pc ls (.ref 3 :: st) (kg_w G) r h' := kr_getf (a := 3) (k := 1) rfl rfl rfl (by decide) kin9 hl hd kk
theorem kx_g3_2 (hl : Cond.fieldLink M.1.cls idx "KeptVolunteers$Troupe" "held" "[I" ∈ kv_W) (hd : decode M.2.1 pc = .ok (.getfield idx, 3)) (kk : kv_V Z d M (pc + 3) ls (.ref 6 :: st) (kg_w G) r h') : kv_V Z d M pc ls (.ref 3 :: st) (kg_w G) r h' := kr_getf (a := 3) (k := 2) rfl rfl rfl (by decide) kin9 hl hd kk
theorem kx_g3_3 (hl : Cond.fieldLink M.1.cls idx "KeptVolunteers$Troupe" "casting" "[I" ∈ kv_W) (hd : decode M.2.1 pc = .ok (.getfield idx, 3)) (kk : kv_V Z d M (pc + 3) ls (.ref 7 :: st) (kg_w G) r h') : kv_V Z d M pc ls (.ref 3 :: st) (kg_w G) r h' := kr_getf (a := 3) (k := 3) rfl rfl rfl (by decide) kin9 hl hd kk
theorem kx_g3_4 (hl : Cond.fieldLink M.1.cls idx "KeptVolunteers$Troupe" "seenOf" "[I" ∈ kv_W) (hd : decode M.2.1 pc = .ok (.getfield idx, 3)) (kk : kv_V Z d M (pc + 3) ls (.ref 8 :: st) (kg_w G) r h') : kv_V Z d M pc ls (.ref 3 :: st) (kg_w G) r h' := kr_getf (a := 3) (k := 4) rfl rfl rfl (by decide) kin9 hl hd kk
theorem kx_g3_5 (hl : Cond.fieldLink M.1.cls idx "KeptVolunteers$Troupe" "seenStrongs" "[I" ∈ kv_W) (hd : decode M.2.1 pc = .ok (.getfield idx, 3)) (kk : kv_V Z d M (pc + 3) ls (.ref 9 :: st) (kg_w G) r h') : kv_V Z d M pc ls (.ref 3 :: st) (kg_w G) r h' := kr_getf (a := 3) (k := 5) rfl rfl rfl (by decide) kin9 hl hd kk
theorem kx_g3_6 (v : Int32) (hv : (G.1 3 6) = v) (hl : Cond.fieldLink M.1.cls idx "KeptVolunteers$Troupe" "kept" "I" ∈ kv_W) (hd : decode M.2.1 pc = .ok (.getfield idx, 3)) (kk : kv_V Z d M (pc + 3) ls (.int v :: st) (kg_w G) r h') : kv_V Z d M pc ls (.ref 3 :: st) (kg_w G) r h' := by
  subst hv
  exact kr_getf (a := 3) (k := 6) rfl rfl rfl (by decide) kin9 hl hd kk
theorem kx_p3_6 {v : Int32} (hl : Cond.fieldLink M.1.cls idx "KeptVolunteers$Troupe" "kept" "I" ∈ kv_W) (hd : decode M.2.1 pc = .ok (.putfield idx, 3)) (kk : kv_V Z d M (pc + 3) ls st (kg_w (kg_i G 3 6 v)) r h') : kv_V Z d M pc ls (.int v :: .ref 3 :: st) (kg_w G) r h' := kr_putf (a := 3) (k := 6) (w := .int v) tyX9 tyX9_ok nmX9 rfl rfl (by decide) kin9 hl rfl rfl rfl (Nat.le_of_ble_eq_true rfl) hd kk
theorem kx_g3_7 (v : Int32) (hv : (G.1 3 7) = v) (hl : Cond.fieldLink M.1.cls idx "KeptVolunteers$Troupe" "here" "I" ∈ kv_W) (hd : decode M.2.1 pc = .ok (.getfield idx, 3)) (kk : kv_V Z d M (pc + 3) ls (.int v :: st) (kg_w G) r h') : kv_V Z d M pc ls (.ref 3 :: st) (kg_w G) r h' := by
  subst hv
  exact kr_getf (a := 3) (k := 7) rfl rfl rfl (by decide) kin9 hl hd kk
theorem kx_p3_7 {v : Int32} (hl : Cond.fieldLink M.1.cls idx "KeptVolunteers$Troupe" "here" "I" ∈ kv_W) (hd : decode M.2.1 pc = .ok (.putfield idx, 3)) (kk : kv_V Z d M (pc + 3) ls st (kg_w (kg_i G 3 7 v)) r h') : kv_V Z d M pc ls (.int v :: .ref 3 :: st) (kg_w G) r h' := kr_putf (a := 3) (k := 7) (w := .int v) tyX9 tyX9_ok nmX9 rfl rfl (by decide) kin9 hl rfl rfl rfl (Nat.le_of_ble_eq_true rfl) hd kk
theorem kx_g3_8 (v : Int32) (hv : (G.1 3 8) = v) (hl : Cond.fieldLink M.1.cls idx "KeptVolunteers$Troupe" "nights" "I" ∈ kv_W) (hd : decode M.2.1 pc = .ok (.getfield idx, 3)) (kk : kv_V Z d M (pc + 3) ls (.int v :: st) (kg_w G) r h') : kv_V Z d M pc ls (.ref 3 :: st) (kg_w G) r h' := by
  subst hv
  exact kr_getf (a := 3) (k := 8) rfl rfl rfl (by decide) kin9 hl hd kk
theorem kx_p3_8 {v : Int32} (hl : Cond.fieldLink M.1.cls idx "KeptVolunteers$Troupe" "nights" "I" ∈ kv_W) (hd : decode M.2.1 pc = .ok (.putfield idx, 3)) (kk : kv_V Z d M (pc + 3) ls st (kg_w (kg_i G 3 8 v)) r h') : kv_V Z d M pc ls (.int v :: .ref 3 :: st) (kg_w G) r h' := kr_putf (a := 3) (k := 8) (w := .int v) tyX9 tyX9_ok nmX9 rfl rfl (by decide) kin9 hl rfl rfl rfl (Nat.le_of_ble_eq_true rfl) hd kk
theorem kx_g3_9 (v : Int32) (hv : (G.1 3 9) = v) (hl : Cond.fieldLink M.1.cls idx "KeptVolunteers$Troupe" "doneOnNights" "I" ∈ kv_W) (hd : decode M.2.1 pc = .ok (.getfield idx, 3)) (kk : kv_V Z d M (pc + 3) ls (.int v :: st) (kg_w G) r h') : kv_V Z d M pc ls (.ref 3 :: st) (kg_w G) r h' := by
  subst hv
  exact kr_getf (a := 3) (k := 9) rfl rfl rfl (by decide) kin9 hl hd kk
theorem kx_p3_9 {v : Int32} (hl : Cond.fieldLink M.1.cls idx "KeptVolunteers$Troupe" "doneOnNights" "I" ∈ kv_W) (hd : decode M.2.1 pc = .ok (.putfield idx, 3)) (kk : kv_V Z d M (pc + 3) ls st (kg_w (kg_i G 3 9 v)) r h') : kv_V Z d M pc ls (.int v :: .ref 3 :: st) (kg_w G) r h' := kr_putf (a := 3) (k := 9) (w := .int v) tyX9 tyX9_ok nmX9 rfl rfl (by decide) kin9 hl rfl rfl rfl (Nat.le_of_ble_eq_true rfl) hd kk
theorem kx_g3_10 (v : Int32) (hv : (G.1 3 10) = v) (hl : Cond.fieldLink M.1.cls idx "KeptVolunteers$Troupe" "moves" "I" ∈ kv_W) (hd : decode M.2.1 pc = .ok (.getfield idx, 3)) (kk : kv_V Z d M (pc + 3) ls (.int v :: st) (kg_w G) r h') : kv_V Z d M pc ls (.ref 3 :: st) (kg_w G) r h' := by
  subst hv
  exact kr_getf (a := 3) (k := 10) rfl rfl rfl (by decide) kin9 hl hd kk
theorem kx_p3_10 {v : Int32} (hl : Cond.fieldLink M.1.cls idx "KeptVolunteers$Troupe" "moves" "I" ∈ kv_W) (hd : decode M.2.1 pc = .ok (.putfield idx, 3)) (kk : kv_V Z d M (pc + 3) ls st (kg_w (kg_i G 3 10 v)) r h') : kv_V Z d M pc ls (.int v :: .ref 3 :: st) (kg_w G) r h' := kr_putf (a := 3) (k := 10) (w := .int v) tyX9 tyX9_ok nmX9 rfl rfl (by decide) kin9 hl rfl rfl rfl (Nat.le_of_ble_eq_true rfl) hd kk
theorem kx_g3_11 (v : Int32) (hv : (G.1 3 11) = v) (hl : Cond.fieldLink M.1.cls idx "KeptVolunteers$Troupe" "called" "I" ∈ kv_W) (hd : decode M.2.1 pc = .ok (.getfield idx, 3)) (kk : kv_V Z d M (pc + 3) ls (.int v :: st) (kg_w G) r h') : kv_V Z d M pc ls (.ref 3 :: st) (kg_w G) r h' := by
  subst hv
  exact kr_getf (a := 3) (k := 11) rfl rfl rfl (by decide) kin9 hl hd kk
theorem kx_p3_11 {v : Int32} (hl : Cond.fieldLink M.1.cls idx "KeptVolunteers$Troupe" "called" "I" ∈ kv_W) (hd : decode M.2.1 pc = .ok (.putfield idx, 3)) (kk : kv_V Z d M (pc + 3) ls st (kg_w (kg_i G 3 11 v)) r h') : kv_V Z d M pc ls (.int v :: .ref 3 :: st) (kg_w G) r h' := kr_putf (a := 3) (k := 11) (w := .int v) tyX9 tyX9_ok nmX9 rfl rfl (by decide) kin9 hl rfl rfl rfl (Nat.le_of_ble_eq_true rfl) hd kk
theorem kx_g3_12 (v : Int32) (hv : (G.1 3 12) = v) (hl : Cond.fieldLink M.1.cls idx "KeptVolunteers$Troupe" "gone" "I" ∈ kv_W) (hd : decode M.2.1 pc = .ok (.getfield idx, 3)) (kk : kv_V Z d M (pc + 3) ls (.int v :: st) (kg_w G) r h') : kv_V Z d M pc ls (.ref 3 :: st) (kg_w G) r h' := by
  subst hv
  exact kr_getf (a := 3) (k := 12) rfl rfl rfl (by decide) kin9 hl hd kk
theorem kx_p3_12 {v : Int32} (hl : Cond.fieldLink M.1.cls idx "KeptVolunteers$Troupe" "gone" "I" ∈ kv_W) (hd : decode M.2.1 pc = .ok (.putfield idx, 3)) (kk : kv_V Z d M (pc + 3) ls st (kg_w (kg_i G 3 12 v)) r h') : kv_V Z d M pc ls (.int v :: .ref 3 :: st) (kg_w G) r h' := kr_putf (a := 3) (k := 12) (w := .int v) tyX9 tyX9_ok nmX9 rfl rfl (by decide) kin9 hl rfl rfl rfl (Nat.le_of_ble_eq_true rfl) hd kk
theorem kx_g3_13 (v : Int32) (hv : (G.1 3 13) = v) (hl : Cond.fieldLink M.1.cls idx "KeptVolunteers$Troupe" "seen" "I" ∈ kv_W) (hd : decode M.2.1 pc = .ok (.getfield idx, 3)) (kk : kv_V Z d M (pc + 3) ls (.int v :: st) (kg_w G) r h') : kv_V Z d M pc ls (.ref 3 :: st) (kg_w G) r h' := by
  subst hv
  exact kr_getf (a := 3) (k := 13) rfl rfl rfl (by decide) kin9 hl hd kk
theorem kx_p3_13 {v : Int32} (hl : Cond.fieldLink M.1.cls idx "KeptVolunteers$Troupe" "seen" "I" ∈ kv_W) (hd : decode M.2.1 pc = .ok (.putfield idx, 3)) (kk : kv_V Z d M (pc + 3) ls st (kg_w (kg_i G 3 13 v)) r h') : kv_V Z d M pc ls (.int v :: .ref 3 :: st) (kg_w G) r h' := kr_putf (a := 3) (k := 13) (w := .int v) tyX9 tyX9_ok nmX9 rfl rfl (by decide) kin9 hl rfl rfl rfl (Nat.le_of_ble_eq_true rfl) hd kk
theorem kx_g10_0 (hl : Cond.fieldLink M.1.cls idx "KeptVolunteers$Troupe" "strong" "[I" ∈ kv_W) (hd : decode M.2.1 pc = .ok (.getfield idx, 3)) (kk : kv_V Z d M (pc + 3) ls (.ref 11 :: st) (kg_w G) r h') : kv_V Z d M pc ls (.ref 10 :: st) (kg_w G) r h' := kr_getf (a := 10) (k := 0) rfl rfl rfl (by decide) kin9 hl hd kk
theorem kx_g10_1 (hl : Cond.fieldLink M.1.cls idx "KeptVolunteers$Troupe" "town" "[I" ∈ kv_W) (hd : decode M.2.1 pc = .ok (.getfield idx, 3)) (kk : kv_V Z d M (pc + 3) ls (.ref 12 :: st) (kg_w G) r h') : kv_V Z d M pc ls (.ref 10 :: st) (kg_w G) r h' := kr_getf (a := 10) (k := 1) rfl rfl rfl (by decide) kin9 hl hd kk
theorem kx_g10_2 (hl : Cond.fieldLink M.1.cls idx "KeptVolunteers$Troupe" "held" "[I" ∈ kv_W) (hd : decode M.2.1 pc = .ok (.getfield idx, 3)) (kk : kv_V Z d M (pc + 3) ls (.ref 13 :: st) (kg_w G) r h') : kv_V Z d M pc ls (.ref 10 :: st) (kg_w G) r h' := kr_getf (a := 10) (k := 2) rfl rfl rfl (by decide) kin9 hl hd kk
theorem kx_g10_3 (hl : Cond.fieldLink M.1.cls idx "KeptVolunteers$Troupe" "casting" "[I" ∈ kv_W) (hd : decode M.2.1 pc = .ok (.getfield idx, 3)) (kk : kv_V Z d M (pc + 3) ls (.ref 14 :: st) (kg_w G) r h') : kv_V Z d M pc ls (.ref 10 :: st) (kg_w G) r h' := kr_getf (a := 10) (k := 3) rfl rfl rfl (by decide) kin9 hl hd kk
theorem kx_g10_4 (hl : Cond.fieldLink M.1.cls idx "KeptVolunteers$Troupe" "seenOf" "[I" ∈ kv_W) (hd : decode M.2.1 pc = .ok (.getfield idx, 3)) (kk : kv_V Z d M (pc + 3) ls (.ref 15 :: st) (kg_w G) r h') : kv_V Z d M pc ls (.ref 10 :: st) (kg_w G) r h' := kr_getf (a := 10) (k := 4) rfl rfl rfl (by decide) kin9 hl hd kk
theorem kx_g10_5 (hl : Cond.fieldLink M.1.cls idx "KeptVolunteers$Troupe" "seenStrongs" "[I" ∈ kv_W) (hd : decode M.2.1 pc = .ok (.getfield idx, 3)) (kk : kv_V Z d M (pc + 3) ls (.ref 16 :: st) (kg_w G) r h') : kv_V Z d M pc ls (.ref 10 :: st) (kg_w G) r h' := kr_getf (a := 10) (k := 5) rfl rfl rfl (by decide) kin9 hl hd kk
theorem kx_g10_6 (v : Int32) (hv : (G.1 10 6) = v) (hl : Cond.fieldLink M.1.cls idx "KeptVolunteers$Troupe" "kept" "I" ∈ kv_W) (hd : decode M.2.1 pc = .ok (.getfield idx, 3)) (kk : kv_V Z d M (pc + 3) ls (.int v :: st) (kg_w G) r h') : kv_V Z d M pc ls (.ref 10 :: st) (kg_w G) r h' := by
  subst hv
  exact kr_getf (a := 10) (k := 6) rfl rfl rfl (by decide) kin9 hl hd kk
theorem kx_p10_6 {v : Int32} (hl : Cond.fieldLink M.1.cls idx "KeptVolunteers$Troupe" "kept" "I" ∈ kv_W) (hd : decode M.2.1 pc = .ok (.putfield idx, 3)) (kk : kv_V Z d M (pc + 3) ls st (kg_w (kg_i G 10 6 v)) r h') : kv_V Z d M pc ls (.int v :: .ref 10 :: st) (kg_w G) r h' := kr_putf (a := 10) (k := 6) (w := .int v) tyX9 tyX9_ok nmX9 rfl rfl (by decide) kin9 hl rfl rfl rfl (Nat.le_of_ble_eq_true rfl) hd kk
theorem kx_g10_7 (v : Int32) (hv : (G.1 10 7) = v) (hl : Cond.fieldLink M.1.cls idx "KeptVolunteers$Troupe" "here" "I" ∈ kv_W) (hd : decode M.2.1 pc = .ok (.getfield idx, 3)) (kk : kv_V Z d M (pc + 3) ls (.int v :: st) (kg_w G) r h') : kv_V Z d M pc ls (.ref 10 :: st) (kg_w G) r h' := by
  subst hv
  exact kr_getf (a := 10) (k := 7) rfl rfl rfl (by decide) kin9 hl hd kk
theorem kx_p10_7 {v : Int32} (hl : Cond.fieldLink M.1.cls idx "KeptVolunteers$Troupe" "here" "I" ∈ kv_W) (hd : decode M.2.1 pc = .ok (.putfield idx, 3)) (kk : kv_V Z d M (pc + 3) ls st (kg_w (kg_i G 10 7 v)) r h') : kv_V Z d M pc ls (.int v :: .ref 10 :: st) (kg_w G) r h' := kr_putf (a := 10) (k := 7) (w := .int v) tyX9 tyX9_ok nmX9 rfl rfl (by decide) kin9 hl rfl rfl rfl (Nat.le_of_ble_eq_true rfl) hd kk
theorem kx_g10_8 (v : Int32) (hv : (G.1 10 8) = v) (hl : Cond.fieldLink M.1.cls idx "KeptVolunteers$Troupe" "nights" "I" ∈ kv_W) (hd : decode M.2.1 pc = .ok (.getfield idx, 3)) (kk : kv_V Z d M (pc + 3) ls (.int v :: st) (kg_w G) r h') : kv_V Z d M pc ls (.ref 10 :: st) (kg_w G) r h' := by
  subst hv
  exact kr_getf (a := 10) (k := 8) rfl rfl rfl (by decide) kin9 hl hd kk
theorem kx_p10_8 {v : Int32} (hl : Cond.fieldLink M.1.cls idx "KeptVolunteers$Troupe" "nights" "I" ∈ kv_W) (hd : decode M.2.1 pc = .ok (.putfield idx, 3)) (kk : kv_V Z d M (pc + 3) ls st (kg_w (kg_i G 10 8 v)) r h') : kv_V Z d M pc ls (.int v :: .ref 10 :: st) (kg_w G) r h' := kr_putf (a := 10) (k := 8) (w := .int v) tyX9 tyX9_ok nmX9 rfl rfl (by decide) kin9 hl rfl rfl rfl (Nat.le_of_ble_eq_true rfl) hd kk
theorem kx_g10_9 (v : Int32) (hv : (G.1 10 9) = v) (hl : Cond.fieldLink M.1.cls idx "KeptVolunteers$Troupe" "doneOnNights" "I" ∈ kv_W) (hd : decode M.2.1 pc = .ok (.getfield idx, 3)) (kk : kv_V Z d M (pc + 3) ls (.int v :: st) (kg_w G) r h') : kv_V Z d M pc ls (.ref 10 :: st) (kg_w G) r h' := by
  subst hv
  exact kr_getf (a := 10) (k := 9) rfl rfl rfl (by decide) kin9 hl hd kk
theorem kx_p10_9 {v : Int32} (hl : Cond.fieldLink M.1.cls idx "KeptVolunteers$Troupe" "doneOnNights" "I" ∈ kv_W) (hd : decode M.2.1 pc = .ok (.putfield idx, 3)) (kk : kv_V Z d M (pc + 3) ls st (kg_w (kg_i G 10 9 v)) r h') : kv_V Z d M pc ls (.int v :: .ref 10 :: st) (kg_w G) r h' := kr_putf (a := 10) (k := 9) (w := .int v) tyX9 tyX9_ok nmX9 rfl rfl (by decide) kin9 hl rfl rfl rfl (Nat.le_of_ble_eq_true rfl) hd kk
theorem kx_g10_10 (v : Int32) (hv : (G.1 10 10) = v) (hl : Cond.fieldLink M.1.cls idx "KeptVolunteers$Troupe" "moves" "I" ∈ kv_W) (hd : decode M.2.1 pc = .ok (.getfield idx, 3)) (kk : kv_V Z d M (pc + 3) ls (.int v :: st) (kg_w G) r h') : kv_V Z d M pc ls (.ref 10 :: st) (kg_w G) r h' := by
  subst hv
  exact kr_getf (a := 10) (k := 10) rfl rfl rfl (by decide) kin9 hl hd kk
theorem kx_p10_10 {v : Int32} (hl : Cond.fieldLink M.1.cls idx "KeptVolunteers$Troupe" "moves" "I" ∈ kv_W) (hd : decode M.2.1 pc = .ok (.putfield idx, 3)) (kk : kv_V Z d M (pc + 3) ls st (kg_w (kg_i G 10 10 v)) r h') : kv_V Z d M pc ls (.int v :: .ref 10 :: st) (kg_w G) r h' := kr_putf (a := 10) (k := 10) (w := .int v) tyX9 tyX9_ok nmX9 rfl rfl (by decide) kin9 hl rfl rfl rfl (Nat.le_of_ble_eq_true rfl) hd kk
theorem kx_g10_11 (v : Int32) (hv : (G.1 10 11) = v) (hl : Cond.fieldLink M.1.cls idx "KeptVolunteers$Troupe" "called" "I" ∈ kv_W) (hd : decode M.2.1 pc = .ok (.getfield idx, 3)) (kk : kv_V Z d M (pc + 3) ls (.int v :: st) (kg_w G) r h') : kv_V Z d M pc ls (.ref 10 :: st) (kg_w G) r h' := by
  subst hv
  exact kr_getf (a := 10) (k := 11) rfl rfl rfl (by decide) kin9 hl hd kk
theorem kx_p10_11 {v : Int32} (hl : Cond.fieldLink M.1.cls idx "KeptVolunteers$Troupe" "called" "I" ∈ kv_W) (hd : decode M.2.1 pc = .ok (.putfield idx, 3)) (kk : kv_V Z d M (pc + 3) ls st (kg_w (kg_i G 10 11 v)) r h') : kv_V Z d M pc ls (.int v :: .ref 10 :: st) (kg_w G) r h' := kr_putf (a := 10) (k := 11) (w := .int v) tyX9 tyX9_ok nmX9 rfl rfl (by decide) kin9 hl rfl rfl rfl (Nat.le_of_ble_eq_true rfl) hd kk
theorem kx_g10_12 (v : Int32) (hv : (G.1 10 12) = v) (hl : Cond.fieldLink M.1.cls idx "KeptVolunteers$Troupe" "gone" "I" ∈ kv_W) (hd : decode M.2.1 pc = .ok (.getfield idx, 3)) (kk : kv_V Z d M (pc + 3) ls (.int v :: st) (kg_w G) r h') : kv_V Z d M pc ls (.ref 10 :: st) (kg_w G) r h' := by
  subst hv
  exact kr_getf (a := 10) (k := 12) rfl rfl rfl (by decide) kin9 hl hd kk
theorem kx_p10_12 {v : Int32} (hl : Cond.fieldLink M.1.cls idx "KeptVolunteers$Troupe" "gone" "I" ∈ kv_W) (hd : decode M.2.1 pc = .ok (.putfield idx, 3)) (kk : kv_V Z d M (pc + 3) ls st (kg_w (kg_i G 10 12 v)) r h') : kv_V Z d M pc ls (.int v :: .ref 10 :: st) (kg_w G) r h' := kr_putf (a := 10) (k := 12) (w := .int v) tyX9 tyX9_ok nmX9 rfl rfl (by decide) kin9 hl rfl rfl rfl (Nat.le_of_ble_eq_true rfl) hd kk
theorem kx_g10_13 (v : Int32) (hv : (G.1 10 13) = v) (hl : Cond.fieldLink M.1.cls idx "KeptVolunteers$Troupe" "seen" "I" ∈ kv_W) (hd : decode M.2.1 pc = .ok (.getfield idx, 3)) (kk : kv_V Z d M (pc + 3) ls (.int v :: st) (kg_w G) r h') : kv_V Z d M pc ls (.ref 10 :: st) (kg_w G) r h' := by
  subst hv
  exact kr_getf (a := 10) (k := 13) rfl rfl rfl (by decide) kin9 hl hd kk
theorem kx_p10_13 {v : Int32} (hl : Cond.fieldLink M.1.cls idx "KeptVolunteers$Troupe" "seen" "I" ∈ kv_W) (hd : decode M.2.1 pc = .ok (.putfield idx, 3)) (kk : kv_V Z d M (pc + 3) ls st (kg_w (kg_i G 10 13 v)) r h') : kv_V Z d M pc ls (.int v :: .ref 10 :: st) (kg_w G) r h' := kr_putf (a := 10) (k := 13) (w := .int v) tyX9 tyX9_ok nmX9 rfl rfl (by decide) kin9 hl rfl rfl rfl (Nat.le_of_ble_eq_true rfl) hd kk
theorem kx_g17_0 (hl : Cond.fieldLink M.1.cls idx "KeptVolunteers$Planner" "best" "[I" ∈ kv_W) (hd : decode M.2.1 pc = .ok (.getfield idx, 3)) (kk : kv_V Z d M (pc + 3) ls (.ref 18 :: st) (kg_w G) r h') : kv_V Z d M pc ls (.ref 17 :: st) (kg_w G) r h' := kr_getf (a := 17) (k := 0) rfl rfl rfl (by decide) kin4 hl hd kk
theorem kx_g17_1 (hl : Cond.fieldLink M.1.cls idx "KeptVolunteers$Planner" "chosen" "[I" ∈ kv_W) (hd : decode M.2.1 pc = .ok (.getfield idx, 3)) (kk : kv_V Z d M (pc + 3) ls (.ref 19 :: st) (kg_w G) r h') : kv_V Z d M pc ls (.ref 17 :: st) (kg_w G) r h' := kr_getf (a := 17) (k := 1) rfl rfl rfl (by decide) kin4 hl hd kk
theorem kx_g17_2 (hl : Cond.fieldLink M.1.cls idx "KeptVolunteers$Planner" "ways" "[I" ∈ kv_W) (hd : decode M.2.1 pc = .ok (.getfield idx, 3)) (kk : kv_V Z d M (pc + 3) ls (.ref 20 :: st) (kg_w G) r h') : kv_V Z d M pc ls (.ref 17 :: st) (kg_w G) r h' := kr_getf (a := 17) (k := 2) rfl rfl rfl (by decide) kin4 hl hd kk
theorem kx_g17_3 (hl : Cond.fieldLink M.1.cls idx "KeptVolunteers$Planner" "clashes" "[I" ∈ kv_W) (hd : decode M.2.1 pc = .ok (.getfield idx, 3)) (kk : kv_V Z d M (pc + 3) ls (.ref 21 :: st) (kg_w G) r h') : kv_V Z d M pc ls (.ref 17 :: st) (kg_w G) r h' := kr_getf (a := 17) (k := 3) rfl rfl rfl (by decide) kin4 hl hd kk
theorem kx_g17_4 (hl : Cond.fieldLink M.1.cls idx "KeptVolunteers$Planner" "apart" "[I" ∈ kv_W) (hd : decode M.2.1 pc = .ok (.getfield idx, 3)) (kk : kv_V Z d M (pc + 3) ls (.ref 22 :: st) (kg_w G) r h') : kv_V Z d M pc ls (.ref 17 :: st) (kg_w G) r h' := kr_getf (a := 17) (k := 4) rfl rfl rfl (by decide) kin4 hl hd kk
theorem kx_g17_5 (v : Int32) (hv : (G.1 17 5) = v) (hl : Cond.fieldLink M.1.cls idx "KeptVolunteers$Planner" "tricks" "I" ∈ kv_W) (hd : decode M.2.1 pc = .ok (.getfield idx, 3)) (kk : kv_V Z d M (pc + 3) ls (.int v :: st) (kg_w G) r h') : kv_V Z d M pc ls (.ref 17 :: st) (kg_w G) r h' := by
  subst hv
  exact kr_getf (a := 17) (k := 5) rfl rfl rfl (by decide) kin4 hl hd kk
theorem kx_p17_5 {v : Int32} (hl : Cond.fieldLink M.1.cls idx "KeptVolunteers$Planner" "tricks" "I" ∈ kv_W) (hd : decode M.2.1 pc = .ok (.putfield idx, 3)) (kk : kv_V Z d M (pc + 3) ls st (kg_w (kg_i G 17 5 v)) r h') : kv_V Z d M pc ls (.int v :: .ref 17 :: st) (kg_w G) r h' := kr_putf (a := 17) (k := 5) (w := .int v) tyX4 tyX4_ok nmX4 rfl rfl (by decide) kin4 hl rfl rfl rfl (Nat.le_of_ble_eq_true rfl) hd kk
theorem kx_g17_6 (v : Int32) (hv : (G.1 17 6) = v) (hl : Cond.fieldLink M.1.cls idx "KeptVolunteers$Planner" "away" "I" ∈ kv_W) (hd : decode M.2.1 pc = .ok (.getfield idx, 3)) (kk : kv_V Z d M (pc + 3) ls (.int v :: st) (kg_w G) r h') : kv_V Z d M pc ls (.ref 17 :: st) (kg_w G) r h' := by
  subst hv
  exact kr_getf (a := 17) (k := 6) rfl rfl rfl (by decide) kin4 hl hd kk
theorem kx_p17_6 {v : Int32} (hl : Cond.fieldLink M.1.cls idx "KeptVolunteers$Planner" "away" "I" ∈ kv_W) (hd : decode M.2.1 pc = .ok (.putfield idx, 3)) (kk : kv_V Z d M (pc + 3) ls st (kg_w (kg_i G 17 6 v)) r h') : kv_V Z d M pc ls (.int v :: .ref 17 :: st) (kg_w G) r h' := kr_putf (a := 17) (k := 6) (w := .int v) tyX4 tyX4_ok nmX4 rfl rfl (by decide) kin4 hl rfl rfl rfl (Nat.le_of_ble_eq_true rfl) hd kk
theorem kx_g17_7 (v : Int32) (hv : (G.1 17 7) = v) (hl : Cond.fieldLink M.1.cls idx "KeptVolunteers$Planner" "bestDone" "I" ∈ kv_W) (hd : decode M.2.1 pc = .ok (.getfield idx, 3)) (kk : kv_V Z d M (pc + 3) ls (.int v :: st) (kg_w G) r h') : kv_V Z d M pc ls (.ref 17 :: st) (kg_w G) r h' := by
  subst hv
  exact kr_getf (a := 17) (k := 7) rfl rfl rfl (by decide) kin4 hl hd kk
theorem kx_p17_7 {v : Int32} (hl : Cond.fieldLink M.1.cls idx "KeptVolunteers$Planner" "bestDone" "I" ∈ kv_W) (hd : decode M.2.1 pc = .ok (.putfield idx, 3)) (kk : kv_V Z d M (pc + 3) ls st (kg_w (kg_i G 17 7 v)) r h') : kv_V Z d M pc ls (.int v :: .ref 17 :: st) (kg_w G) r h' := kr_putf (a := 17) (k := 7) (w := .int v) tyX4 tyX4_ok nmX4 rfl rfl (by decide) kin4 hl rfl rfl rfl (Nat.le_of_ble_eq_true rfl) hd kk
theorem kx_g23_0 (hl : Cond.fieldLink M.1.cls idx "KeptVolunteers$Tour" "line" "[I" ∈ kv_W) (hd : decode M.2.1 pc = .ok (.getfield idx, 3)) (kk : kv_V Z d M (pc + 3) ls (.ref 24 :: st) (kg_w G) r h') : kv_V Z d M pc ls (.ref 23 :: st) (kg_w G) r h' := kr_getf (a := 23) (k := 0) rfl rfl rfl (by decide) kin7 hl hd kk
theorem kx_g23_1 (hl : Cond.fieldLink M.1.cls idx "KeptVolunteers$Tour" "taken" "[I" ∈ kv_W) (hd : decode M.2.1 pc = .ok (.getfield idx, 3)) (kk : kv_V Z d M (pc + 3) ls (.ref 25 :: st) (kg_w G) r h') : kv_V Z d M pc ls (.ref 23 :: st) (kg_w G) r h' := kr_getf (a := 23) (k := 1) rfl rfl rfl (by decide) kin7 hl hd kk
theorem kx_g23_2 (v : Int32) (hv : (G.1 23 2) = v) (hl : Cond.fieldLink M.1.cls idx "KeptVolunteers$Tour" "size" "I" ∈ kv_W) (hd : decode M.2.1 pc = .ok (.getfield idx, 3)) (kk : kv_V Z d M (pc + 3) ls (.int v :: st) (kg_w G) r h') : kv_V Z d M pc ls (.ref 23 :: st) (kg_w G) r h' := by
  subst hv
  exact kr_getf (a := 23) (k := 2) rfl rfl rfl (by decide) kin7 hl hd kk
theorem kx_p23_2 {v : Int32} (hl : Cond.fieldLink M.1.cls idx "KeptVolunteers$Tour" "size" "I" ∈ kv_W) (hd : decode M.2.1 pc = .ok (.putfield idx, 3)) (kk : kv_V Z d M (pc + 3) ls st (kg_w (kg_i G 23 2 v)) r h') : kv_V Z d M pc ls (.int v :: .ref 23 :: st) (kg_w G) r h' := kr_putf (a := 23) (k := 2) (w := .int v) tyX7 tyX7_ok nmX7 rfl rfl (by decide) kin7 hl rfl rfl rfl (Nat.le_of_ble_eq_true rfl) hd kk
theorem kx_g23_3 (v : Int32) (hv : (G.1 23 3) = v) (hl : Cond.fieldLink M.1.cls idx "KeptVolunteers$Tour" "done" "I" ∈ kv_W) (hd : decode M.2.1 pc = .ok (.getfield idx, 3)) (kk : kv_V Z d M (pc + 3) ls (.int v :: st) (kg_w G) r h') : kv_V Z d M pc ls (.ref 23 :: st) (kg_w G) r h' := by
  subst hv
  exact kr_getf (a := 23) (k := 3) rfl rfl rfl (by decide) kin7 hl hd kk
theorem kx_p23_3 {v : Int32} (hl : Cond.fieldLink M.1.cls idx "KeptVolunteers$Tour" "done" "I" ∈ kv_W) (hd : decode M.2.1 pc = .ok (.putfield idx, 3)) (kk : kv_V Z d M (pc + 3) ls st (kg_w (kg_i G 23 3 v)) r h') : kv_V Z d M pc ls (.int v :: .ref 23 :: st) (kg_w G) r h' := kr_putf (a := 23) (k := 3) (w := .int v) tyX7 tyX7_ok nmX7 rfl rfl (by decide) kin7 hl rfl rfl rfl (Nat.le_of_ble_eq_true rfl) hd kk
theorem kx_g23_4 (v : Int32) (hv : (G.1 23 4) = v) (hl : Cond.fieldLink M.1.cls idx "KeptVolunteers$Tour" "gone" "I" ∈ kv_W) (hd : decode M.2.1 pc = .ok (.getfield idx, 3)) (kk : kv_V Z d M (pc + 3) ls (.int v :: st) (kg_w G) r h') : kv_V Z d M pc ls (.ref 23 :: st) (kg_w G) r h' := by
  subst hv
  exact kr_getf (a := 23) (k := 4) rfl rfl rfl (by decide) kin7 hl hd kk
theorem kx_p23_4 {v : Int32} (hl : Cond.fieldLink M.1.cls idx "KeptVolunteers$Tour" "gone" "I" ∈ kv_W) (hd : decode M.2.1 pc = .ok (.putfield idx, 3)) (kk : kv_V Z d M (pc + 3) ls st (kg_w (kg_i G 23 4 v)) r h') : kv_V Z d M pc ls (.int v :: .ref 23 :: st) (kg_w G) r h' := kr_putf (a := 23) (k := 4) (w := .int v) tyX7 tyX7_ok nmX7 rfl rfl (by decide) kin7 hl rfl rfl rfl (Nat.le_of_ble_eq_true rfl) hd kk
theorem kx_g23_5 (v : Int32) (hv : (G.1 23 5) = v) (hl : Cond.fieldLink M.1.cls idx "KeptVolunteers$Tour" "seed" "I" ∈ kv_W) (hd : decode M.2.1 pc = .ok (.getfield idx, 3)) (kk : kv_V Z d M (pc + 3) ls (.int v :: st) (kg_w G) r h') : kv_V Z d M pc ls (.ref 23 :: st) (kg_w G) r h' := by
  subst hv
  exact kr_getf (a := 23) (k := 5) rfl rfl rfl (by decide) kin7 hl hd kk
theorem kx_p23_5 {v : Int32} (hl : Cond.fieldLink M.1.cls idx "KeptVolunteers$Tour" "seed" "I" ∈ kv_W) (hd : decode M.2.1 pc = .ok (.putfield idx, 3)) (kk : kv_V Z d M (pc + 3) ls st (kg_w (kg_i G 23 5 v)) r h') : kv_V Z d M pc ls (.int v :: .ref 23 :: st) (kg_w G) r h' := kr_putf (a := 23) (k := 5) (w := .int v) tyX7 tyX7_ok nmX7 rfl rfl (by decide) kin7 hl rfl rfl rfl (Nat.le_of_ble_eq_true rfl) hd kk
theorem kx_g28_0 (hl : Cond.fieldLink M.1.cls idx "KeptVolunteersModel" "page" "[I" ∈ kv_W) (hd : decode M.2.1 pc = .ok (.getfield idx, 3)) (kk : kv_V Z d M (pc + 3) ls (.ref 29 :: st) (kg_w G) r h') : kv_V Z d M pc ls (.ref 28 :: st) (kg_w G) r h' := kr_getf (a := 28) (k := 0) rfl rfl rfl (by decide) kin11 hl hd kk
theorem kx_g28_1 (v : Int32) (hv : (G.1 28 1) = v) (hl : Cond.fieldLink M.1.cls idx "KeptVolunteersModel" "pageMany" "I" ∈ kv_W) (hd : decode M.2.1 pc = .ok (.getfield idx, 3)) (kk : kv_V Z d M (pc + 3) ls (.int v :: st) (kg_w G) r h') : kv_V Z d M pc ls (.ref 28 :: st) (kg_w G) r h' := by
  subst hv
  exact kr_getf (a := 28) (k := 1) rfl rfl rfl (by decide) kin11 hl hd kk
theorem kx_p28_1 {v : Int32} (hl : Cond.fieldLink M.1.cls idx "KeptVolunteersModel" "pageMany" "I" ∈ kv_W) (hd : decode M.2.1 pc = .ok (.putfield idx, 3)) (kk : kv_V Z d M (pc + 3) ls st (kg_w (kg_i G 28 1 v)) r h') : kv_V Z d M pc ls (.int v :: .ref 28 :: st) (kg_w G) r h' := kr_putf (a := 28) (k := 1) (w := .int v) tyX11 tyX11_ok nmX11 rfl rfl (by decide) kin11 hl rfl rfl rfl (Nat.le_of_ble_eq_true rfl) hd kk
theorem kx_g28_2 (v : Int32) (hv : (G.1 28 2) = v) (hl : Cond.fieldLink M.1.cls idx "KeptVolunteersModel" "endAt" "I" ∈ kv_W) (hd : decode M.2.1 pc = .ok (.getfield idx, 3)) (kk : kv_V Z d M (pc + 3) ls (.int v :: st) (kg_w G) r h') : kv_V Z d M pc ls (.ref 28 :: st) (kg_w G) r h' := by
  subst hv
  exact kr_getf (a := 28) (k := 2) rfl rfl rfl (by decide) kin11 hl hd kk
theorem kx_p28_2 {v : Int32} (hl : Cond.fieldLink M.1.cls idx "KeptVolunteersModel" "endAt" "I" ∈ kv_W) (hd : decode M.2.1 pc = .ok (.putfield idx, 3)) (kk : kv_V Z d M (pc + 3) ls st (kg_w (kg_i G 28 2 v)) r h') : kv_V Z d M pc ls (.int v :: .ref 28 :: st) (kg_w G) r h' := kr_putf (a := 28) (k := 2) (w := .int v) tyX11 tyX11_ok nmX11 rfl rfl (by decide) kin11 hl rfl rfl rfl (Nat.le_of_ble_eq_true rfl) hd kk
theorem kx_g28_3 (v : Int32) (hv : (G.1 28 3) = v) (hl : Cond.fieldLink M.1.cls idx "KeptVolunteersModel" "tricks" "I" ∈ kv_W) (hd : decode M.2.1 pc = .ok (.getfield idx, 3)) (kk : kv_V Z d M (pc + 3) ls (.int v :: st) (kg_w G) r h') : kv_V Z d M pc ls (.ref 28 :: st) (kg_w G) r h' := by
  subst hv
  exact kr_getf (a := 28) (k := 3) rfl rfl rfl (by decide) kin11 hl hd kk
theorem kx_p28_3 {v : Int32} (hl : Cond.fieldLink M.1.cls idx "KeptVolunteersModel" "tricks" "I" ∈ kv_W) (hd : decode M.2.1 pc = .ok (.putfield idx, 3)) (kk : kv_V Z d M (pc + 3) ls st (kg_w (kg_i G 28 3 v)) r h') : kv_V Z d M pc ls (.int v :: .ref 28 :: st) (kg_w G) r h' := kr_putf (a := 28) (k := 3) (w := .int v) tyX11 tyX11_ok nmX11 rfl rfl (by decide) kin11 hl rfl rfl rfl (Nat.le_of_ble_eq_true rfl) hd kk
theorem kx_g28_4 (v : Int32) (hv : (G.1 28 4) = v) (hl : Cond.fieldLink M.1.cls idx "KeptVolunteersModel" "people" "I" ∈ kv_W) (hd : decode M.2.1 pc = .ok (.getfield idx, 3)) (kk : kv_V Z d M (pc + 3) ls (.int v :: st) (kg_w G) r h') : kv_V Z d M pc ls (.ref 28 :: st) (kg_w G) r h' := by
  subst hv
  exact kr_getf (a := 28) (k := 4) rfl rfl rfl (by decide) kin11 hl hd kk
theorem kx_p28_4 {v : Int32} (hl : Cond.fieldLink M.1.cls idx "KeptVolunteersModel" "people" "I" ∈ kv_W) (hd : decode M.2.1 pc = .ok (.putfield idx, 3)) (kk : kv_V Z d M (pc + 3) ls st (kg_w (kg_i G 28 4 v)) r h') : kv_V Z d M pc ls (.int v :: .ref 28 :: st) (kg_w G) r h' := kr_putf (a := 28) (k := 4) (w := .int v) tyX11 tyX11_ok nmX11 rfl rfl (by decide) kin11 hl rfl rfl rfl (Nat.le_of_ble_eq_true rfl) hd kk
theorem kx_g28_5 (v : Int32) (hv : (G.1 28 5) = v) (hl : Cond.fieldLink M.1.cls idx "KeptVolunteersModel" "town" "I" ∈ kv_W) (hd : decode M.2.1 pc = .ok (.getfield idx, 3)) (kk : kv_V Z d M (pc + 3) ls (.int v :: st) (kg_w G) r h') : kv_V Z d M pc ls (.ref 28 :: st) (kg_w G) r h' := by
  subst hv
  exact kr_getf (a := 28) (k := 5) rfl rfl rfl (by decide) kin11 hl hd kk
theorem kx_p28_5 {v : Int32} (hl : Cond.fieldLink M.1.cls idx "KeptVolunteersModel" "town" "I" ∈ kv_W) (hd : decode M.2.1 pc = .ok (.putfield idx, 3)) (kk : kv_V Z d M (pc + 3) ls st (kg_w (kg_i G 28 5 v)) r h') : kv_V Z d M pc ls (.int v :: .ref 28 :: st) (kg_w G) r h' := kr_putf (a := 28) (k := 5) (w := .int v) tyX11 tyX11_ok nmX11 rfl rfl (by decide) kin11 hl rfl rfl rfl (Nat.le_of_ble_eq_true rfl) hd kk
theorem kx_g28_6 (v : Int32) (hv : (G.1 28 6) = v) (hl : Cond.fieldLink M.1.cls idx "KeptVolunteersModel" "nights" "I" ∈ kv_W) (hd : decode M.2.1 pc = .ok (.getfield idx, 3)) (kk : kv_V Z d M (pc + 3) ls (.int v :: st) (kg_w G) r h') : kv_V Z d M pc ls (.ref 28 :: st) (kg_w G) r h' := by
  subst hv
  exact kr_getf (a := 28) (k := 6) rfl rfl rfl (by decide) kin11 hl hd kk
theorem kx_p28_6 {v : Int32} (hl : Cond.fieldLink M.1.cls idx "KeptVolunteersModel" "nights" "I" ∈ kv_W) (hd : decode M.2.1 pc = .ok (.putfield idx, 3)) (kk : kv_V Z d M (pc + 3) ls st (kg_w (kg_i G 28 6 v)) r h') : kv_V Z d M pc ls (.int v :: .ref 28 :: st) (kg_w G) r h' := kr_putf (a := 28) (k := 6) (w := .int v) tyX11 tyX11_ok nmX11 rfl rfl (by decide) kin11 hl rfl rfl rfl (Nat.le_of_ble_eq_true rfl) hd kk
theorem kx_g28_7 (v : Int32) (hv : (G.1 28 7) = v) (hl : Cond.fieldLink M.1.cls idx "KeptVolunteersModel" "doneAll" "I" ∈ kv_W) (hd : decode M.2.1 pc = .ok (.getfield idx, 3)) (kk : kv_V Z d M (pc + 3) ls (.int v :: st) (kg_w G) r h') : kv_V Z d M pc ls (.ref 28 :: st) (kg_w G) r h' := by
  subst hv
  exact kr_getf (a := 28) (k := 7) rfl rfl rfl (by decide) kin11 hl hd kk
theorem kx_p28_7 {v : Int32} (hl : Cond.fieldLink M.1.cls idx "KeptVolunteersModel" "doneAll" "I" ∈ kv_W) (hd : decode M.2.1 pc = .ok (.putfield idx, 3)) (kk : kv_V Z d M (pc + 3) ls st (kg_w (kg_i G 28 7 v)) r h') : kv_V Z d M pc ls (.int v :: .ref 28 :: st) (kg_w G) r h' := kr_putf (a := 28) (k := 7) (w := .int v) tyX11 tyX11_ok nmX11 rfl rfl (by decide) kin11 hl rfl rfl rfl (Nat.le_of_ble_eq_true rfl) hd kk
theorem kx_g28_8 (v : Int32) (hv : (G.1 28 8) = v) (hl : Cond.fieldLink M.1.cls idx "KeptVolunteersModel" "moves" "I" ∈ kv_W) (hd : decode M.2.1 pc = .ok (.getfield idx, 3)) (kk : kv_V Z d M (pc + 3) ls (.int v :: st) (kg_w G) r h') : kv_V Z d M pc ls (.ref 28 :: st) (kg_w G) r h' := by
  subst hv
  exact kr_getf (a := 28) (k := 8) rfl rfl rfl (by decide) kin11 hl hd kk
theorem kx_p28_8 {v : Int32} (hl : Cond.fieldLink M.1.cls idx "KeptVolunteersModel" "moves" "I" ∈ kv_W) (hd : decode M.2.1 pc = .ok (.putfield idx, 3)) (kk : kv_V Z d M (pc + 3) ls st (kg_w (kg_i G 28 8 v)) r h') : kv_V Z d M pc ls (.int v :: .ref 28 :: st) (kg_w G) r h' := kr_putf (a := 28) (k := 8) (w := .int v) tyX11 tyX11_ok nmX11 rfl rfl (by decide) kin11 hl rfl rfl rfl (Nat.le_of_ble_eq_true rfl) hd kk
theorem kx_g28_9 (v : Int32) (hv : (G.1 28 9) = v) (hl : Cond.fieldLink M.1.cls idx "KeptVolunteersModel" "called" "I" ∈ kv_W) (hd : decode M.2.1 pc = .ok (.getfield idx, 3)) (kk : kv_V Z d M (pc + 3) ls (.int v :: st) (kg_w G) r h') : kv_V Z d M pc ls (.ref 28 :: st) (kg_w G) r h' := by
  subst hv
  exact kr_getf (a := 28) (k := 9) rfl rfl rfl (by decide) kin11 hl hd kk
theorem kx_p28_9 {v : Int32} (hl : Cond.fieldLink M.1.cls idx "KeptVolunteersModel" "called" "I" ∈ kv_W) (hd : decode M.2.1 pc = .ok (.putfield idx, 3)) (kk : kv_V Z d M (pc + 3) ls st (kg_w (kg_i G 28 9 v)) r h') : kv_V Z d M pc ls (.int v :: .ref 28 :: st) (kg_w G) r h' := kr_putf (a := 28) (k := 9) (w := .int v) tyX11 tyX11_ok nmX11 rfl rfl (by decide) kin11 hl rfl rfl rfl (Nat.le_of_ble_eq_true rfl) hd kk
theorem kx_g28_10 (v : Int32) (hv : (G.1 28 10) = v) (hl : Cond.fieldLink M.1.cls idx "KeptVolunteersModel" "gone" "I" ∈ kv_W) (hd : decode M.2.1 pc = .ok (.getfield idx, 3)) (kk : kv_V Z d M (pc + 3) ls (.int v :: st) (kg_w G) r h') : kv_V Z d M pc ls (.ref 28 :: st) (kg_w G) r h' := by
  subst hv
  exact kr_getf (a := 28) (k := 10) rfl rfl rfl (by decide) kin11 hl hd kk
theorem kx_p28_10 {v : Int32} (hl : Cond.fieldLink M.1.cls idx "KeptVolunteersModel" "gone" "I" ∈ kv_W) (hd : decode M.2.1 pc = .ok (.putfield idx, 3)) (kk : kv_V Z d M (pc + 3) ls st (kg_w (kg_i G 28 10 v)) r h') : kv_V Z d M pc ls (.int v :: .ref 28 :: st) (kg_w G) r h' := kr_putf (a := 28) (k := 10) (w := .int v) tyX11 tyX11_ok nmX11 rfl rfl (by decide) kin11 hl rfl rfl rfl (Nat.le_of_ble_eq_true rfl) hd kk
theorem kx_g28_11 (v : Int32) (hv : (G.1 28 11) = v) (hl : Cond.fieldLink M.1.cls idx "KeptVolunteersModel" "showsRead" "I" ∈ kv_W) (hd : decode M.2.1 pc = .ok (.getfield idx, 3)) (kk : kv_V Z d M (pc + 3) ls (.int v :: st) (kg_w G) r h') : kv_V Z d M pc ls (.ref 28 :: st) (kg_w G) r h' := by
  subst hv
  exact kr_getf (a := 28) (k := 11) rfl rfl rfl (by decide) kin11 hl hd kk
theorem kx_p28_11 {v : Int32} (hl : Cond.fieldLink M.1.cls idx "KeptVolunteersModel" "showsRead" "I" ∈ kv_W) (hd : decode M.2.1 pc = .ok (.putfield idx, 3)) (kk : kv_V Z d M (pc + 3) ls st (kg_w (kg_i G 28 11 v)) r h') : kv_V Z d M pc ls (.int v :: .ref 28 :: st) (kg_w G) r h' := kr_putf (a := 28) (k := 11) (w := .int v) tyX11 tyX11_ok nmX11 rfl rfl (by decide) kin11 hl rfl rfl rfl (Nat.le_of_ble_eq_true rfl) hd kk
theorem kx_g28_12 (hl : Cond.fieldLink M.1.cls idx "KeptVolunteersModel" "rows" "[I" ∈ kv_W) (hd : decode M.2.1 pc = .ok (.getfield idx, 3)) (kk : kv_V Z d M (pc + 3) ls (.ref 30 :: st) (kg_w G) r h') : kv_V Z d M pc ls (.ref 28 :: st) (kg_w G) r h' := kr_getf (a := 28) (k := 12) rfl rfl rfl (by decide) kin11 hl hd kk
theorem kx_g28_13 (hl : Cond.fieldLink M.1.cls idx "KeptVolunteersModel" "folk" "[I" ∈ kv_W) (hd : decode M.2.1 pc = .ok (.getfield idx, 3)) (kk : kv_V Z d M (pc + 3) ls (.ref 31 :: st) (kg_w G) r h') : kv_V Z d M pc ls (.ref 28 :: st) (kg_w G) r h' := kr_getf (a := 28) (k := 13) rfl rfl rfl (by decide) kin11 hl hd kk
theorem kx_g28_14 (hl : Cond.fieldLink M.1.cls idx "KeptVolunteersModel" "casts" "[I" ∈ kv_W) (hd : decode M.2.1 pc = .ok (.getfield idx, 3)) (kk : kv_V Z d M (pc + 3) ls (.ref 32 :: st) (kg_w G) r h') : kv_V Z d M pc ls (.ref 28 :: st) (kg_w G) r h' := kr_getf (a := 28) (k := 14) rfl rfl rfl (by decide) kin11 hl hd kk
theorem kx_g28_15 (v : Int32) (hv : (G.1 28 15) = v) (hl : Cond.fieldLink M.1.cls idx "KeptVolunteersModel" "mostsDone" "I" ∈ kv_W) (hd : decode M.2.1 pc = .ok (.getfield idx, 3)) (kk : kv_V Z d M (pc + 3) ls (.int v :: st) (kg_w G) r h') : kv_V Z d M pc ls (.ref 28 :: st) (kg_w G) r h' := by
  subst hv
  exact kr_getf (a := 28) (k := 15) rfl rfl rfl (by decide) kin11 hl hd kk
theorem kx_p28_15 {v : Int32} (hl : Cond.fieldLink M.1.cls idx "KeptVolunteersModel" "mostsDone" "I" ∈ kv_W) (hd : decode M.2.1 pc = .ok (.putfield idx, 3)) (kk : kv_V Z d M (pc + 3) ls st (kg_w (kg_i G 28 15 v)) r h') : kv_V Z d M pc ls (.int v :: .ref 28 :: st) (kg_w G) r h' := kr_putf (a := 28) (k := 15) (w := .int v) tyX11 tyX11_ok nmX11 rfl rfl (by decide) kin11 hl rfl rfl rfl (Nat.le_of_ble_eq_true rfl) hd kk
theorem kx_g28_16 (hl : Cond.fieldLink M.1.cls idx "KeptVolunteersModel" "choices" "[I" ∈ kv_W) (hd : decode M.2.1 pc = .ok (.getfield idx, 3)) (kk : kv_V Z d M (pc + 3) ls (.ref 33 :: st) (kg_w G) r h') : kv_V Z d M pc ls (.ref 28 :: st) (kg_w G) r h' := kr_getf (a := 28) (k := 16) rfl rfl rfl (by decide) kin11 hl hd kk
theorem kx_g28_17 (hl : Cond.fieldLink M.1.cls idx "KeptVolunteersModel" "choicesMany" "[I" ∈ kv_W) (hd : decode M.2.1 pc = .ok (.getfield idx, 3)) (kk : kv_V Z d M (pc + 3) ls (.ref 34 :: st) (kg_w G) r h') : kv_V Z d M pc ls (.ref 28 :: st) (kg_w G) r h' := kr_getf (a := 28) (k := 17) rfl rfl rfl (by decide) kin11 hl hd kk
theorem kx_g28_18 (hl : Cond.fieldLink M.1.cls idx "KeptVolunteersModel" "row" "[I" ∈ kv_W) (hd : decode M.2.1 pc = .ok (.getfield idx, 3)) (kk : kv_V Z d M (pc + 3) ls (.ref 35 :: st) (kg_w G) r h') : kv_V Z d M pc ls (.ref 28 :: st) (kg_w G) r h' := kr_getf (a := 28) (k := 18) rfl rfl rfl (by decide) kin11 hl hd kk
theorem kx_g28_19 (hl : Cond.fieldLink M.1.cls idx "KeptVolunteersModel" "bestRow" "[I" ∈ kv_W) (hd : decode M.2.1 pc = .ok (.getfield idx, 3)) (kk : kv_V Z d M (pc + 3) ls (.ref 36 :: st) (kg_w G) r h') : kv_V Z d M pc ls (.ref 28 :: st) (kg_w G) r h' := kr_getf (a := 28) (k := 19) rfl rfl rfl (by decide) kin11 hl hd kk
theorem kx_g28_20 (hl : Cond.fieldLink M.1.cls idx "KeptVolunteersModel" "places" "[I" ∈ kv_W) (hd : decode M.2.1 pc = .ok (.getfield idx, 3)) (kk : kv_V Z d M (pc + 3) ls (.ref 37 :: st) (kg_w G) r h') : kv_V Z d M pc ls (.ref 28 :: st) (kg_w G) r h' := kr_getf (a := 28) (k := 20) rfl rfl rfl (by decide) kin11 hl hd kk
theorem kx_g28_21 (v : Int32) (hv : (G.1 28 21) = v) (hl : Cond.fieldLink M.1.cls idx "KeptVolunteersModel" "fewestsDone" "I" ∈ kv_W) (hd : decode M.2.1 pc = .ok (.getfield idx, 3)) (kk : kv_V Z d M (pc + 3) ls (.int v :: st) (kg_w G) r h') : kv_V Z d M pc ls (.ref 28 :: st) (kg_w G) r h' := by
  subst hv
  exact kr_getf (a := 28) (k := 21) rfl rfl rfl (by decide) kin11 hl hd kk
theorem kx_p28_21 {v : Int32} (hl : Cond.fieldLink M.1.cls idx "KeptVolunteersModel" "fewestsDone" "I" ∈ kv_W) (hd : decode M.2.1 pc = .ok (.putfield idx, 3)) (kk : kv_V Z d M (pc + 3) ls st (kg_w (kg_i G 28 21 v)) r h') : kv_V Z d M pc ls (.int v :: .ref 28 :: st) (kg_w G) r h' := kr_putf (a := 28) (k := 21) (w := .int v) tyX11 tyX11_ok nmX11 rfl rfl (by decide) kin11 hl rfl rfl rfl (Nat.le_of_ble_eq_true rfl) hd kk
theorem kx_g28_22 (v : Int32) (hv : (G.1 28 22) = v) (hl : Cond.fieldLink M.1.cls idx "KeptVolunteersModel" "sparesDone" "I" ∈ kv_W) (hd : decode M.2.1 pc = .ok (.getfield idx, 3)) (kk : kv_V Z d M (pc + 3) ls (.int v :: st) (kg_w G) r h') : kv_V Z d M pc ls (.ref 28 :: st) (kg_w G) r h' := by
  subst hv
  exact kr_getf (a := 28) (k := 22) rfl rfl rfl (by decide) kin11 hl hd kk
theorem kx_p28_22 {v : Int32} (hl : Cond.fieldLink M.1.cls idx "KeptVolunteersModel" "sparesDone" "I" ∈ kv_W) (hd : decode M.2.1 pc = .ok (.putfield idx, 3)) (kk : kv_V Z d M (pc + 3) ls st (kg_w (kg_i G 28 22 v)) r h') : kv_V Z d M pc ls (.int v :: .ref 28 :: st) (kg_w G) r h' := kr_putf (a := 28) (k := 22) (w := .int v) tyX11 tyX11_ok nmX11 rfl rfl (by decide) kin11 hl rfl rfl rfl (Nat.le_of_ble_eq_true rfl) hd kk
theorem kx_g28_23 (v : Int32) (hv : (G.1 28 23) = v) (hl : Cond.fieldLink M.1.cls idx "KeptVolunteersModel" "seenMany" "I" ∈ kv_W) (hd : decode M.2.1 pc = .ok (.getfield idx, 3)) (kk : kv_V Z d M (pc + 3) ls (.int v :: st) (kg_w G) r h') : kv_V Z d M pc ls (.ref 28 :: st) (kg_w G) r h' := by
  subst hv
  exact kr_getf (a := 28) (k := 23) rfl rfl rfl (by decide) kin11 hl hd kk
theorem kx_p28_23 {v : Int32} (hl : Cond.fieldLink M.1.cls idx "KeptVolunteersModel" "seenMany" "I" ∈ kv_W) (hd : decode M.2.1 pc = .ok (.putfield idx, 3)) (kk : kv_V Z d M (pc + 3) ls st (kg_w (kg_i G 28 23 v)) r h') : kv_V Z d M pc ls (.int v :: .ref 28 :: st) (kg_w G) r h' := kr_putf (a := 28) (k := 23) (w := .int v) tyX11 tyX11_ok nmX11 rfl rfl (by decide) kin11 hl rfl rfl rfl (Nat.le_of_ble_eq_true rfl) hd kk
theorem kx_g28_24 (hl : Cond.fieldLink M.1.cls idx "KeptVolunteersModel" "sights" "[I" ∈ kv_W) (hd : decode M.2.1 pc = .ok (.getfield idx, 3)) (kk : kv_V Z d M (pc + 3) ls (.ref 38 :: st) (kg_w G) r h') : kv_V Z d M pc ls (.ref 28 :: st) (kg_w G) r h' := kr_getf (a := 28) (k := 24) rfl rfl rfl (by decide) kin11 hl hd kk
theorem kx_g28_25 (v : Int32) (hv : (G.1 28 25) = v) (hl : Cond.fieldLink M.1.cls idx "KeptVolunteersModel" "seedNow" "I" ∈ kv_W) (hd : decode M.2.1 pc = .ok (.getfield idx, 3)) (kk : kv_V Z d M (pc + 3) ls (.int v :: st) (kg_w G) r h') : kv_V Z d M pc ls (.ref 28 :: st) (kg_w G) r h' := by
  subst hv
  exact kr_getf (a := 28) (k := 25) rfl rfl rfl (by decide) kin11 hl hd kk
theorem kx_p28_25 {v : Int32} (hl : Cond.fieldLink M.1.cls idx "KeptVolunteersModel" "seedNow" "I" ∈ kv_W) (hd : decode M.2.1 pc = .ok (.putfield idx, 3)) (kk : kv_V Z d M (pc + 3) ls st (kg_w (kg_i G 28 25 v)) r h') : kv_V Z d M pc ls (.int v :: .ref 28 :: st) (kg_w G) r h' := kr_putf (a := 28) (k := 25) (w := .int v) tyX11 tyX11_ok nmX11 rfl rfl (by decide) kin11 hl rfl rfl rfl (Nat.le_of_ble_eq_true rfl) hd kk
theorem kx_g28_26 (hl : Cond.fieldLink M.1.cls idx "KeptVolunteersModel" "line" "[I" ∈ kv_W) (hd : decode M.2.1 pc = .ok (.getfield idx, 3)) (kk : kv_V Z d M (pc + 3) ls (.ref 39 :: st) (kg_w G) r h') : kv_V Z d M pc ls (.ref 28 :: st) (kg_w G) r h' := kr_getf (a := 28) (k := 26) rfl rfl rfl (by decide) kin11 hl hd kk
theorem kx_g28_27 (hl : Cond.fieldLink M.1.cls idx "KeptVolunteersModel" "lineIn" "[I" ∈ kv_W) (hd : decode M.2.1 pc = .ok (.getfield idx, 3)) (kk : kv_V Z d M (pc + 3) ls (.ref 40 :: st) (kg_w G) r h') : kv_V Z d M pc ls (.ref 28 :: st) (kg_w G) r h' := kr_getf (a := 28) (k := 27) rfl rfl rfl (by decide) kin11 hl hd kk
theorem kx_g28_28 (hl : Cond.fieldLink M.1.cls idx "KeptVolunteersModel" "lineDone" "[I" ∈ kv_W) (hd : decode M.2.1 pc = .ok (.getfield idx, 3)) (kk : kv_V Z d M (pc + 3) ls (.ref 41 :: st) (kg_w G) r h') : kv_V Z d M pc ls (.ref 28 :: st) (kg_w G) r h' := kr_getf (a := 28) (k := 28) rfl rfl rfl (by decide) kin11 hl hd kk
theorem kx_g28_29 (v : Int32) (hv : (G.1 28 29) = v) (hl : Cond.fieldLink M.1.cls idx "KeptVolunteersModel" "lineMany" "I" ∈ kv_W) (hd : decode M.2.1 pc = .ok (.getfield idx, 3)) (kk : kv_V Z d M (pc + 3) ls (.int v :: st) (kg_w G) r h') : kv_V Z d M pc ls (.ref 28 :: st) (kg_w G) r h' := by
  subst hv
  exact kr_getf (a := 28) (k := 29) rfl rfl rfl (by decide) kin11 hl hd kk
theorem kx_p28_29 {v : Int32} (hl : Cond.fieldLink M.1.cls idx "KeptVolunteersModel" "lineMany" "I" ∈ kv_W) (hd : decode M.2.1 pc = .ok (.putfield idx, 3)) (kk : kv_V Z d M (pc + 3) ls st (kg_w (kg_i G 28 29 v)) r h') : kv_V Z d M pc ls (.int v :: .ref 28 :: st) (kg_w G) r h' := kr_putf (a := 28) (k := 29) (w := .int v) tyX11 tyX11_ok nmX11 rfl rfl (by decide) kin11 hl rfl rfl rfl (Nat.le_of_ble_eq_true rfl) hd kk
theorem kx_g28_30 (v : Int32) (hv : (G.1 28 30) = v) (hl : Cond.fieldLink M.1.cls idx "KeptVolunteersModel" "keptShow" "I" ∈ kv_W) (hd : decode M.2.1 pc = .ok (.getfield idx, 3)) (kk : kv_V Z d M (pc + 3) ls (.int v :: st) (kg_w G) r h') : kv_V Z d M pc ls (.ref 28 :: st) (kg_w G) r h' := by
  subst hv
  exact kr_getf (a := 28) (k := 30) rfl rfl rfl (by decide) kin11 hl hd kk
theorem kx_p28_30 {v : Int32} (hl : Cond.fieldLink M.1.cls idx "KeptVolunteersModel" "keptShow" "I" ∈ kv_W) (hd : decode M.2.1 pc = .ok (.putfield idx, 3)) (kk : kv_V Z d M (pc + 3) ls st (kg_w (kg_i G 28 30 v)) r h') : kv_V Z d M pc ls (.int v :: .ref 28 :: st) (kg_w G) r h' := kr_putf (a := 28) (k := 30) (w := .int v) tyX11 tyX11_ok nmX11 rfl rfl (by decide) kin11 hl rfl rfl rfl (Nat.le_of_ble_eq_true rfl) hd kk
theorem kx_g28_31 (v : Int32) (hv : (G.1 28 31) = v) (hl : Cond.fieldLink M.1.cls idx "KeptVolunteersModel" "keptTown" "I" ∈ kv_W) (hd : decode M.2.1 pc = .ok (.getfield idx, 3)) (kk : kv_V Z d M (pc + 3) ls (.int v :: st) (kg_w G) r h') : kv_V Z d M pc ls (.ref 28 :: st) (kg_w G) r h' := by
  subst hv
  exact kr_getf (a := 28) (k := 31) rfl rfl rfl (by decide) kin11 hl hd kk
theorem kx_p28_31 {v : Int32} (hl : Cond.fieldLink M.1.cls idx "KeptVolunteersModel" "keptTown" "I" ∈ kv_W) (hd : decode M.2.1 pc = .ok (.putfield idx, 3)) (kk : kv_V Z d M (pc + 3) ls st (kg_w (kg_i G 28 31 v)) r h') : kv_V Z d M pc ls (.int v :: .ref 28 :: st) (kg_w G) r h' := kr_putf (a := 28) (k := 31) (w := .int v) tyX11 tyX11_ok nmX11 rfl rfl (by decide) kin11 hl rfl rfl rfl (Nat.le_of_ble_eq_true rfl) hd kk
theorem kx_g28_32 (v : Int32) (hv : (G.1 28 32) = v) (hl : Cond.fieldLink M.1.cls idx "KeptVolunteersModel" "keptNights" "I" ∈ kv_W) (hd : decode M.2.1 pc = .ok (.getfield idx, 3)) (kk : kv_V Z d M (pc + 3) ls (.int v :: st) (kg_w G) r h') : kv_V Z d M pc ls (.ref 28 :: st) (kg_w G) r h' := by
  subst hv
  exact kr_getf (a := 28) (k := 32) rfl rfl rfl (by decide) kin11 hl hd kk
theorem kx_p28_32 {v : Int32} (hl : Cond.fieldLink M.1.cls idx "KeptVolunteersModel" "keptNights" "I" ∈ kv_W) (hd : decode M.2.1 pc = .ok (.putfield idx, 3)) (kk : kv_V Z d M (pc + 3) ls st (kg_w (kg_i G 28 32 v)) r h') : kv_V Z d M pc ls (.int v :: .ref 28 :: st) (kg_w G) r h' := kr_putf (a := 28) (k := 32) (w := .int v) tyX11 tyX11_ok nmX11 rfl rfl (by decide) kin11 hl rfl rfl rfl (Nat.le_of_ble_eq_true rfl) hd kk
theorem kx_g28_33 (v : Int32) (hv : (G.1 28 33) = v) (hl : Cond.fieldLink M.1.cls idx "KeptVolunteersModel" "keptDone" "I" ∈ kv_W) (hd : decode M.2.1 pc = .ok (.getfield idx, 3)) (kk : kv_V Z d M (pc + 3) ls (.int v :: st) (kg_w G) r h') : kv_V Z d M pc ls (.ref 28 :: st) (kg_w G) r h' := by
  subst hv
  exact kr_getf (a := 28) (k := 33) rfl rfl rfl (by decide) kin11 hl hd kk
theorem kx_p28_33 {v : Int32} (hl : Cond.fieldLink M.1.cls idx "KeptVolunteersModel" "keptDone" "I" ∈ kv_W) (hd : decode M.2.1 pc = .ok (.putfield idx, 3)) (kk : kv_V Z d M (pc + 3) ls st (kg_w (kg_i G 28 33 v)) r h') : kv_V Z d M pc ls (.int v :: .ref 28 :: st) (kg_w G) r h' := kr_putf (a := 28) (k := 33) (w := .int v) tyX11 tyX11_ok nmX11 rfl rfl (by decide) kin11 hl rfl rfl rfl (Nat.le_of_ble_eq_true rfl) hd kk
theorem kx_g28_34 (v : Int32) (hv : (G.1 28 34) = v) (hl : Cond.fieldLink M.1.cls idx "KeptVolunteersModel" "keptMoves" "I" ∈ kv_W) (hd : decode M.2.1 pc = .ok (.getfield idx, 3)) (kk : kv_V Z d M (pc + 3) ls (.int v :: st) (kg_w G) r h') : kv_V Z d M pc ls (.ref 28 :: st) (kg_w G) r h' := by
  subst hv
  exact kr_getf (a := 28) (k := 34) rfl rfl rfl (by decide) kin11 hl hd kk
theorem kx_p28_34 {v : Int32} (hl : Cond.fieldLink M.1.cls idx "KeptVolunteersModel" "keptMoves" "I" ∈ kv_W) (hd : decode M.2.1 pc = .ok (.putfield idx, 3)) (kk : kv_V Z d M (pc + 3) ls st (kg_w (kg_i G 28 34 v)) r h') : kv_V Z d M pc ls (.int v :: .ref 28 :: st) (kg_w G) r h' := kr_putf (a := 28) (k := 34) (w := .int v) tyX11 tyX11_ok nmX11 rfl rfl (by decide) kin11 hl rfl rfl rfl (Nat.le_of_ble_eq_true rfl) hd kk
theorem kx_g28_35 (v : Int32) (hv : (G.1 28 35) = v) (hl : Cond.fieldLink M.1.cls idx "KeptVolunteersModel" "keptCalled" "I" ∈ kv_W) (hd : decode M.2.1 pc = .ok (.getfield idx, 3)) (kk : kv_V Z d M (pc + 3) ls (.int v :: st) (kg_w G) r h') : kv_V Z d M pc ls (.ref 28 :: st) (kg_w G) r h' := by
  subst hv
  exact kr_getf (a := 28) (k := 35) rfl rfl rfl (by decide) kin11 hl hd kk
theorem kx_p28_35 {v : Int32} (hl : Cond.fieldLink M.1.cls idx "KeptVolunteersModel" "keptCalled" "I" ∈ kv_W) (hd : decode M.2.1 pc = .ok (.putfield idx, 3)) (kk : kv_V Z d M (pc + 3) ls st (kg_w (kg_i G 28 35 v)) r h') : kv_V Z d M pc ls (.int v :: .ref 28 :: st) (kg_w G) r h' := kr_putf (a := 28) (k := 35) (w := .int v) tyX11 tyX11_ok nmX11 rfl rfl (by decide) kin11 hl rfl rfl rfl (Nat.le_of_ble_eq_true rfl) hd kk
theorem kx_g28_36 (v : Int32) (hv : (G.1 28 36) = v) (hl : Cond.fieldLink M.1.cls idx "KeptVolunteersModel" "keptGone" "I" ∈ kv_W) (hd : decode M.2.1 pc = .ok (.getfield idx, 3)) (kk : kv_V Z d M (pc + 3) ls (.int v :: st) (kg_w G) r h') : kv_V Z d M pc ls (.ref 28 :: st) (kg_w G) r h' := by
  subst hv
  exact kr_getf (a := 28) (k := 36) rfl rfl rfl (by decide) kin11 hl hd kk
theorem kx_p28_36 {v : Int32} (hl : Cond.fieldLink M.1.cls idx "KeptVolunteersModel" "keptGone" "I" ∈ kv_W) (hd : decode M.2.1 pc = .ok (.putfield idx, 3)) (kk : kv_V Z d M (pc + 3) ls st (kg_w (kg_i G 28 36 v)) r h') : kv_V Z d M pc ls (.int v :: .ref 28 :: st) (kg_w G) r h' := kr_putf (a := 28) (k := 36) (w := .int v) tyX11 tyX11_ok nmX11 rfl rfl (by decide) kin11 hl rfl rfl rfl (Nat.le_of_ble_eq_true rfl) hd kk
theorem kx_g28_37 (v : Int32) (hv : (G.1 28 37) = v) (hl : Cond.fieldLink M.1.cls idx "KeptVolunteersModel" "keptSeen" "I" ∈ kv_W) (hd : decode M.2.1 pc = .ok (.getfield idx, 3)) (kk : kv_V Z d M (pc + 3) ls (.int v :: st) (kg_w G) r h') : kv_V Z d M pc ls (.ref 28 :: st) (kg_w G) r h' := by
  subst hv
  exact kr_getf (a := 28) (k := 37) rfl rfl rfl (by decide) kin11 hl hd kk
theorem kx_p28_37 {v : Int32} (hl : Cond.fieldLink M.1.cls idx "KeptVolunteersModel" "keptSeen" "I" ∈ kv_W) (hd : decode M.2.1 pc = .ok (.putfield idx, 3)) (kk : kv_V Z d M (pc + 3) ls st (kg_w (kg_i G 28 37 v)) r h') : kv_V Z d M pc ls (.int v :: .ref 28 :: st) (kg_w G) r h' := kr_putf (a := 28) (k := 37) (w := .int v) tyX11 tyX11_ok nmX11 rfl rfl (by decide) kin11 hl rfl rfl rfl (Nat.le_of_ble_eq_true rfl) hd kk
theorem kx_g28_38 (hl : Cond.fieldLink M.1.cls idx "KeptVolunteersModel" "keptFolk" "[I" ∈ kv_W) (hd : decode M.2.1 pc = .ok (.getfield idx, 3)) (kk : kv_V Z d M (pc + 3) ls (.ref 42 :: st) (kg_w G) r h') : kv_V Z d M pc ls (.ref 28 :: st) (kg_w G) r h' := kr_getf (a := 28) (k := 38) rfl rfl rfl (by decide) kin11 hl hd kk
theorem kx_g28_39 (hl : Cond.fieldLink M.1.cls idx "KeptVolunteersModel" "keptCasts" "[I" ∈ kv_W) (hd : decode M.2.1 pc = .ok (.getfield idx, 3)) (kk : kv_V Z d M (pc + 3) ls (.ref 43 :: st) (kg_w G) r h') : kv_V Z d M pc ls (.ref 28 :: st) (kg_w G) r h' := kr_getf (a := 28) (k := 39) rfl rfl rfl (by decide) kin11 hl hd kk
theorem kx_g28_40 (hl : Cond.fieldLink M.1.cls idx "KeptVolunteersModel" "keptSights" "[I" ∈ kv_W) (hd : decode M.2.1 pc = .ok (.getfield idx, 3)) (kk : kv_V Z d M (pc + 3) ls (.ref 44 :: st) (kg_w G) r h') : kv_V Z d M pc ls (.ref 28 :: st) (kg_w G) r h' := kr_getf (a := 28) (k := 40) rfl rfl rfl (by decide) kin11 hl hd kk
theorem kx_g28_41 (v : Int64) (hv : G.2.2.1 = v) (hl : Cond.fieldLink M.1.cls idx "KeptVolunteersModel" "hash" "J" ∈ kv_W) (hd : decode M.2.1 pc = .ok (.getfield idx, 3)) (kk : kv_V Z d M (pc + 3) ls (.long v :: st) (kg_w G) r h') : kv_V Z d M pc ls (.ref 28 :: st) (kg_w G) r h' := by
  subst hv
  exact kr_getf (a := 28) (k := 41) rfl rfl rfl (by decide) kin11 hl hd kk
theorem kx_p28_41 {v : Int64} (hl : Cond.fieldLink M.1.cls idx "KeptVolunteersModel" "hash" "J" ∈ kv_W) (hd : decode M.2.1 pc = .ok (.putfield idx, 3)) (kk : kv_V Z d M (pc + 3) ls st (kg_w (kg_h G v)) r h') : kv_V Z d M pc ls (.long v :: .ref 28 :: st) (kg_w G) r h' := kr_putf (a := 28) (k := 41) (w := .long v) tyX11 tyX11_ok nmX11 rfl rfl (by decide) kin11 hl rfl rfl rfl (Nat.le_of_ble_eq_true rfl) hd kk
theorem kx_a2 {i x : Int32} (xs : List Int32) (hv : G.2.1 2 = xs) (hg : kv_g xs i = some x) (hd : decode M.2.1 pc = .ok (.iaload, 1)) (kk : kv_V Z d M (pc + 1) ls (.int x :: st) (kg_w G) r h') : kv_V Z d M pc ls (.int i :: .ref 2 :: st) (kg_w G) r h' := by
  subst hv
  exact kr_iald (a := 2) rfl hg hd kk
theorem kx_s2 {i x : Int32} {ys : List Int32} (xs : List Int32) (hv : G.2.1 2 = xs) (hg : kv_p xs i x = some ys) (hd : decode M.2.1 pc = .ok (.iastore, 1)) (kk : kv_V Z d M (pc + 1) ls st (kg_w (kg_a G 2 ys)) r h') : kv_V Z d M pc ls (.int x :: .int i :: .ref 2 :: st) (kg_w G) r h' := by
  subst hv
  exact kr_iast (a := 2) rfl hg hd kk
theorem kx_l2 (x : Int32) (hv : nI (G.2.1 2).length = x) (hd : decode M.2.1 pc = .ok (.arraylength, 1)) (kk : kv_V Z d M (pc + 1) ls (.int x :: st) (kg_w G) r h') : kv_V Z d M pc ls (.ref 2 :: st) (kg_w G) r h' := by
  subst hv
  exact kr_alen (a := 2) rfl hd kk
theorem kx_a4 {i x : Int32} (xs : List Int32) (hv : G.2.1 4 = xs) (hg : kv_g xs i = some x) (hd : decode M.2.1 pc = .ok (.iaload, 1)) (kk : kv_V Z d M (pc + 1) ls (.int x :: st) (kg_w G) r h') : kv_V Z d M pc ls (.int i :: .ref 4 :: st) (kg_w G) r h' := by
  subst hv
  exact kr_iald (a := 4) rfl hg hd kk
theorem kx_s4 {i x : Int32} {ys : List Int32} (xs : List Int32) (hv : G.2.1 4 = xs) (hg : kv_p xs i x = some ys) (hd : decode M.2.1 pc = .ok (.iastore, 1)) (kk : kv_V Z d M (pc + 1) ls st (kg_w (kg_a G 4 ys)) r h') : kv_V Z d M pc ls (.int x :: .int i :: .ref 4 :: st) (kg_w G) r h' := by
  subst hv
  exact kr_iast (a := 4) rfl hg hd kk
theorem kx_l4 (x : Int32) (hv : nI (G.2.1 4).length = x) (hd : decode M.2.1 pc = .ok (.arraylength, 1)) (kk : kv_V Z d M (pc + 1) ls (.int x :: st) (kg_w G) r h') : kv_V Z d M pc ls (.ref 4 :: st) (kg_w G) r h' := by
  subst hv
  exact kr_alen (a := 4) rfl hd kk
theorem kx_a5 {i x : Int32} (xs : List Int32) (hv : G.2.1 5 = xs) (hg : kv_g xs i = some x) (hd : decode M.2.1 pc = .ok (.iaload, 1)) (kk : kv_V Z d M (pc + 1) ls (.int x :: st) (kg_w G) r h') : kv_V Z d M pc ls (.int i :: .ref 5 :: st) (kg_w G) r h' := by
  subst hv
  exact kr_iald (a := 5) rfl hg hd kk
theorem kx_s5 {i x : Int32} {ys : List Int32} (xs : List Int32) (hv : G.2.1 5 = xs) (hg : kv_p xs i x = some ys) (hd : decode M.2.1 pc = .ok (.iastore, 1)) (kk : kv_V Z d M (pc + 1) ls st (kg_w (kg_a G 5 ys)) r h') : kv_V Z d M pc ls (.int x :: .int i :: .ref 5 :: st) (kg_w G) r h' := by
  subst hv
  exact kr_iast (a := 5) rfl hg hd kk
theorem kx_l5 (x : Int32) (hv : nI (G.2.1 5).length = x) (hd : decode M.2.1 pc = .ok (.arraylength, 1)) (kk : kv_V Z d M (pc + 1) ls (.int x :: st) (kg_w G) r h') : kv_V Z d M pc ls (.ref 5 :: st) (kg_w G) r h' := by
  subst hv
  exact kr_alen (a := 5) rfl hd kk
theorem kx_a6 {i x : Int32} (xs : List Int32) (hv : G.2.1 6 = xs) (hg : kv_g xs i = some x) (hd : decode M.2.1 pc = .ok (.iaload, 1)) (kk : kv_V Z d M (pc + 1) ls (.int x :: st) (kg_w G) r h') : kv_V Z d M pc ls (.int i :: .ref 6 :: st) (kg_w G) r h' := by
  subst hv
  exact kr_iald (a := 6) rfl hg hd kk
theorem kx_s6 {i x : Int32} {ys : List Int32} (xs : List Int32) (hv : G.2.1 6 = xs) (hg : kv_p xs i x = some ys) (hd : decode M.2.1 pc = .ok (.iastore, 1)) (kk : kv_V Z d M (pc + 1) ls st (kg_w (kg_a G 6 ys)) r h') : kv_V Z d M pc ls (.int x :: .int i :: .ref 6 :: st) (kg_w G) r h' := by
  subst hv
  exact kr_iast (a := 6) rfl hg hd kk
theorem kx_l6 (x : Int32) (hv : nI (G.2.1 6).length = x) (hd : decode M.2.1 pc = .ok (.arraylength, 1)) (kk : kv_V Z d M (pc + 1) ls (.int x :: st) (kg_w G) r h') : kv_V Z d M pc ls (.ref 6 :: st) (kg_w G) r h' := by
  subst hv
  exact kr_alen (a := 6) rfl hd kk
theorem kx_a7 {i x : Int32} (xs : List Int32) (hv : G.2.1 7 = xs) (hg : kv_g xs i = some x) (hd : decode M.2.1 pc = .ok (.iaload, 1)) (kk : kv_V Z d M (pc + 1) ls (.int x :: st) (kg_w G) r h') : kv_V Z d M pc ls (.int i :: .ref 7 :: st) (kg_w G) r h' := by
  subst hv
  exact kr_iald (a := 7) rfl hg hd kk
theorem kx_s7 {i x : Int32} {ys : List Int32} (xs : List Int32) (hv : G.2.1 7 = xs) (hg : kv_p xs i x = some ys) (hd : decode M.2.1 pc = .ok (.iastore, 1)) (kk : kv_V Z d M (pc + 1) ls st (kg_w (kg_a G 7 ys)) r h') : kv_V Z d M pc ls (.int x :: .int i :: .ref 7 :: st) (kg_w G) r h' := by
  subst hv
  exact kr_iast (a := 7) rfl hg hd kk
theorem kx_l7 (x : Int32) (hv : nI (G.2.1 7).length = x) (hd : decode M.2.1 pc = .ok (.arraylength, 1)) (kk : kv_V Z d M (pc + 1) ls (.int x :: st) (kg_w G) r h') : kv_V Z d M pc ls (.ref 7 :: st) (kg_w G) r h' := by
  subst hv
  exact kr_alen (a := 7) rfl hd kk
theorem kx_a8 {i x : Int32} (xs : List Int32) (hv : G.2.1 8 = xs) (hg : kv_g xs i = some x) (hd : decode M.2.1 pc = .ok (.iaload, 1)) (kk : kv_V Z d M (pc + 1) ls (.int x :: st) (kg_w G) r h') : kv_V Z d M pc ls (.int i :: .ref 8 :: st) (kg_w G) r h' := by
  subst hv
  exact kr_iald (a := 8) rfl hg hd kk
theorem kx_s8 {i x : Int32} {ys : List Int32} (xs : List Int32) (hv : G.2.1 8 = xs) (hg : kv_p xs i x = some ys) (hd : decode M.2.1 pc = .ok (.iastore, 1)) (kk : kv_V Z d M (pc + 1) ls st (kg_w (kg_a G 8 ys)) r h') : kv_V Z d M pc ls (.int x :: .int i :: .ref 8 :: st) (kg_w G) r h' := by
  subst hv
  exact kr_iast (a := 8) rfl hg hd kk
theorem kx_l8 (x : Int32) (hv : nI (G.2.1 8).length = x) (hd : decode M.2.1 pc = .ok (.arraylength, 1)) (kk : kv_V Z d M (pc + 1) ls (.int x :: st) (kg_w G) r h') : kv_V Z d M pc ls (.ref 8 :: st) (kg_w G) r h' := by
  subst hv
  exact kr_alen (a := 8) rfl hd kk
theorem kx_a9 {i x : Int32} (xs : List Int32) (hv : G.2.1 9 = xs) (hg : kv_g xs i = some x) (hd : decode M.2.1 pc = .ok (.iaload, 1)) (kk : kv_V Z d M (pc + 1) ls (.int x :: st) (kg_w G) r h') : kv_V Z d M pc ls (.int i :: .ref 9 :: st) (kg_w G) r h' := by
  subst hv
  exact kr_iald (a := 9) rfl hg hd kk
theorem kx_s9 {i x : Int32} {ys : List Int32} (xs : List Int32) (hv : G.2.1 9 = xs) (hg : kv_p xs i x = some ys) (hd : decode M.2.1 pc = .ok (.iastore, 1)) (kk : kv_V Z d M (pc + 1) ls st (kg_w (kg_a G 9 ys)) r h') : kv_V Z d M pc ls (.int x :: .int i :: .ref 9 :: st) (kg_w G) r h' := by
  subst hv
  exact kr_iast (a := 9) rfl hg hd kk
theorem kx_l9 (x : Int32) (hv : nI (G.2.1 9).length = x) (hd : decode M.2.1 pc = .ok (.arraylength, 1)) (kk : kv_V Z d M (pc + 1) ls (.int x :: st) (kg_w G) r h') : kv_V Z d M pc ls (.ref 9 :: st) (kg_w G) r h' := by
  subst hv
  exact kr_alen (a := 9) rfl hd kk
theorem kx_a11 {i x : Int32} (xs : List Int32) (hv : G.2.1 11 = xs) (hg : kv_g xs i = some x) (hd : decode M.2.1 pc = .ok (.iaload, 1)) (kk : kv_V Z d M (pc + 1) ls (.int x :: st) (kg_w G) r h') : kv_V Z d M pc ls (.int i :: .ref 11 :: st) (kg_w G) r h' := by
  subst hv
  exact kr_iald (a := 11) rfl hg hd kk
theorem kx_s11 {i x : Int32} {ys : List Int32} (xs : List Int32) (hv : G.2.1 11 = xs) (hg : kv_p xs i x = some ys) (hd : decode M.2.1 pc = .ok (.iastore, 1)) (kk : kv_V Z d M (pc + 1) ls st (kg_w (kg_a G 11 ys)) r h') : kv_V Z d M pc ls (.int x :: .int i :: .ref 11 :: st) (kg_w G) r h' := by
  subst hv
  exact kr_iast (a := 11) rfl hg hd kk
theorem kx_l11 (x : Int32) (hv : nI (G.2.1 11).length = x) (hd : decode M.2.1 pc = .ok (.arraylength, 1)) (kk : kv_V Z d M (pc + 1) ls (.int x :: st) (kg_w G) r h') : kv_V Z d M pc ls (.ref 11 :: st) (kg_w G) r h' := by
  subst hv
  exact kr_alen (a := 11) rfl hd kk
theorem kx_a12 {i x : Int32} (xs : List Int32) (hv : G.2.1 12 = xs) (hg : kv_g xs i = some x) (hd : decode M.2.1 pc = .ok (.iaload, 1)) (kk : kv_V Z d M (pc + 1) ls (.int x :: st) (kg_w G) r h') : kv_V Z d M pc ls (.int i :: .ref 12 :: st) (kg_w G) r h' := by
  subst hv
  exact kr_iald (a := 12) rfl hg hd kk
theorem kx_s12 {i x : Int32} {ys : List Int32} (xs : List Int32) (hv : G.2.1 12 = xs) (hg : kv_p xs i x = some ys) (hd : decode M.2.1 pc = .ok (.iastore, 1)) (kk : kv_V Z d M (pc + 1) ls st (kg_w (kg_a G 12 ys)) r h') : kv_V Z d M pc ls (.int x :: .int i :: .ref 12 :: st) (kg_w G) r h' := by
  subst hv
  exact kr_iast (a := 12) rfl hg hd kk
theorem kx_l12 (x : Int32) (hv : nI (G.2.1 12).length = x) (hd : decode M.2.1 pc = .ok (.arraylength, 1)) (kk : kv_V Z d M (pc + 1) ls (.int x :: st) (kg_w G) r h') : kv_V Z d M pc ls (.ref 12 :: st) (kg_w G) r h' := by
  subst hv
  exact kr_alen (a := 12) rfl hd kk
theorem kx_a13 {i x : Int32} (xs : List Int32) (hv : G.2.1 13 = xs) (hg : kv_g xs i = some x) (hd : decode M.2.1 pc = .ok (.iaload, 1)) (kk : kv_V Z d M (pc + 1) ls (.int x :: st) (kg_w G) r h') : kv_V Z d M pc ls (.int i :: .ref 13 :: st) (kg_w G) r h' := by
  subst hv
  exact kr_iald (a := 13) rfl hg hd kk
theorem kx_s13 {i x : Int32} {ys : List Int32} (xs : List Int32) (hv : G.2.1 13 = xs) (hg : kv_p xs i x = some ys) (hd : decode M.2.1 pc = .ok (.iastore, 1)) (kk : kv_V Z d M (pc + 1) ls st (kg_w (kg_a G 13 ys)) r h') : kv_V Z d M pc ls (.int x :: .int i :: .ref 13 :: st) (kg_w G) r h' := by
  subst hv
  exact kr_iast (a := 13) rfl hg hd kk
theorem kx_l13 (x : Int32) (hv : nI (G.2.1 13).length = x) (hd : decode M.2.1 pc = .ok (.arraylength, 1)) (kk : kv_V Z d M (pc + 1) ls (.int x :: st) (kg_w G) r h') : kv_V Z d M pc ls (.ref 13 :: st) (kg_w G) r h' := by
  subst hv
  exact kr_alen (a := 13) rfl hd kk
theorem kx_a14 {i x : Int32} (xs : List Int32) (hv : G.2.1 14 = xs) (hg : kv_g xs i = some x) (hd : decode M.2.1 pc = .ok (.iaload, 1)) (kk : kv_V Z d M (pc + 1) ls (.int x :: st) (kg_w G) r h') : kv_V Z d M pc ls (.int i :: .ref 14 :: st) (kg_w G) r h' := by
  subst hv
  exact kr_iald (a := 14) rfl hg hd kk
theorem kx_s14 {i x : Int32} {ys : List Int32} (xs : List Int32) (hv : G.2.1 14 = xs) (hg : kv_p xs i x = some ys) (hd : decode M.2.1 pc = .ok (.iastore, 1)) (kk : kv_V Z d M (pc + 1) ls st (kg_w (kg_a G 14 ys)) r h') : kv_V Z d M pc ls (.int x :: .int i :: .ref 14 :: st) (kg_w G) r h' := by
  subst hv
  exact kr_iast (a := 14) rfl hg hd kk
theorem kx_l14 (x : Int32) (hv : nI (G.2.1 14).length = x) (hd : decode M.2.1 pc = .ok (.arraylength, 1)) (kk : kv_V Z d M (pc + 1) ls (.int x :: st) (kg_w G) r h') : kv_V Z d M pc ls (.ref 14 :: st) (kg_w G) r h' := by
  subst hv
  exact kr_alen (a := 14) rfl hd kk
theorem kx_a15 {i x : Int32} (xs : List Int32) (hv : G.2.1 15 = xs) (hg : kv_g xs i = some x) (hd : decode M.2.1 pc = .ok (.iaload, 1)) (kk : kv_V Z d M (pc + 1) ls (.int x :: st) (kg_w G) r h') : kv_V Z d M pc ls (.int i :: .ref 15 :: st) (kg_w G) r h' := by
  subst hv
  exact kr_iald (a := 15) rfl hg hd kk
theorem kx_s15 {i x : Int32} {ys : List Int32} (xs : List Int32) (hv : G.2.1 15 = xs) (hg : kv_p xs i x = some ys) (hd : decode M.2.1 pc = .ok (.iastore, 1)) (kk : kv_V Z d M (pc + 1) ls st (kg_w (kg_a G 15 ys)) r h') : kv_V Z d M pc ls (.int x :: .int i :: .ref 15 :: st) (kg_w G) r h' := by
  subst hv
  exact kr_iast (a := 15) rfl hg hd kk
theorem kx_l15 (x : Int32) (hv : nI (G.2.1 15).length = x) (hd : decode M.2.1 pc = .ok (.arraylength, 1)) (kk : kv_V Z d M (pc + 1) ls (.int x :: st) (kg_w G) r h') : kv_V Z d M pc ls (.ref 15 :: st) (kg_w G) r h' := by
  subst hv
  exact kr_alen (a := 15) rfl hd kk
theorem kx_a16 {i x : Int32} (xs : List Int32) (hv : G.2.1 16 = xs) (hg : kv_g xs i = some x) (hd : decode M.2.1 pc = .ok (.iaload, 1)) (kk : kv_V Z d M (pc + 1) ls (.int x :: st) (kg_w G) r h') : kv_V Z d M pc ls (.int i :: .ref 16 :: st) (kg_w G) r h' := by
  subst hv
  exact kr_iald (a := 16) rfl hg hd kk
theorem kx_s16 {i x : Int32} {ys : List Int32} (xs : List Int32) (hv : G.2.1 16 = xs) (hg : kv_p xs i x = some ys) (hd : decode M.2.1 pc = .ok (.iastore, 1)) (kk : kv_V Z d M (pc + 1) ls st (kg_w (kg_a G 16 ys)) r h') : kv_V Z d M pc ls (.int x :: .int i :: .ref 16 :: st) (kg_w G) r h' := by
  subst hv
  exact kr_iast (a := 16) rfl hg hd kk
theorem kx_l16 (x : Int32) (hv : nI (G.2.1 16).length = x) (hd : decode M.2.1 pc = .ok (.arraylength, 1)) (kk : kv_V Z d M (pc + 1) ls (.int x :: st) (kg_w G) r h') : kv_V Z d M pc ls (.ref 16 :: st) (kg_w G) r h' := by
  subst hv
  exact kr_alen (a := 16) rfl hd kk
theorem kx_a18 {i x : Int32} (xs : List Int32) (hv : G.2.1 18 = xs) (hg : kv_g xs i = some x) (hd : decode M.2.1 pc = .ok (.iaload, 1)) (kk : kv_V Z d M (pc + 1) ls (.int x :: st) (kg_w G) r h') : kv_V Z d M pc ls (.int i :: .ref 18 :: st) (kg_w G) r h' := by
  subst hv
  exact kr_iald (a := 18) rfl hg hd kk
theorem kx_s18 {i x : Int32} {ys : List Int32} (xs : List Int32) (hv : G.2.1 18 = xs) (hg : kv_p xs i x = some ys) (hd : decode M.2.1 pc = .ok (.iastore, 1)) (kk : kv_V Z d M (pc + 1) ls st (kg_w (kg_a G 18 ys)) r h') : kv_V Z d M pc ls (.int x :: .int i :: .ref 18 :: st) (kg_w G) r h' := by
  subst hv
  exact kr_iast (a := 18) rfl hg hd kk
theorem kx_l18 (x : Int32) (hv : nI (G.2.1 18).length = x) (hd : decode M.2.1 pc = .ok (.arraylength, 1)) (kk : kv_V Z d M (pc + 1) ls (.int x :: st) (kg_w G) r h') : kv_V Z d M pc ls (.ref 18 :: st) (kg_w G) r h' := by
  subst hv
  exact kr_alen (a := 18) rfl hd kk
theorem kx_a19 {i x : Int32} (xs : List Int32) (hv : G.2.1 19 = xs) (hg : kv_g xs i = some x) (hd : decode M.2.1 pc = .ok (.iaload, 1)) (kk : kv_V Z d M (pc + 1) ls (.int x :: st) (kg_w G) r h') : kv_V Z d M pc ls (.int i :: .ref 19 :: st) (kg_w G) r h' := by
  subst hv
  exact kr_iald (a := 19) rfl hg hd kk
theorem kx_s19 {i x : Int32} {ys : List Int32} (xs : List Int32) (hv : G.2.1 19 = xs) (hg : kv_p xs i x = some ys) (hd : decode M.2.1 pc = .ok (.iastore, 1)) (kk : kv_V Z d M (pc + 1) ls st (kg_w (kg_a G 19 ys)) r h') : kv_V Z d M pc ls (.int x :: .int i :: .ref 19 :: st) (kg_w G) r h' := by
  subst hv
  exact kr_iast (a := 19) rfl hg hd kk
theorem kx_l19 (x : Int32) (hv : nI (G.2.1 19).length = x) (hd : decode M.2.1 pc = .ok (.arraylength, 1)) (kk : kv_V Z d M (pc + 1) ls (.int x :: st) (kg_w G) r h') : kv_V Z d M pc ls (.ref 19 :: st) (kg_w G) r h' := by
  subst hv
  exact kr_alen (a := 19) rfl hd kk
theorem kx_a20 {i x : Int32} (xs : List Int32) (hv : G.2.1 20 = xs) (hg : kv_g xs i = some x) (hd : decode M.2.1 pc = .ok (.iaload, 1)) (kk : kv_V Z d M (pc + 1) ls (.int x :: st) (kg_w G) r h') : kv_V Z d M pc ls (.int i :: .ref 20 :: st) (kg_w G) r h' := by
  subst hv
  exact kr_iald (a := 20) rfl hg hd kk
theorem kx_s20 {i x : Int32} {ys : List Int32} (xs : List Int32) (hv : G.2.1 20 = xs) (hg : kv_p xs i x = some ys) (hd : decode M.2.1 pc = .ok (.iastore, 1)) (kk : kv_V Z d M (pc + 1) ls st (kg_w (kg_a G 20 ys)) r h') : kv_V Z d M pc ls (.int x :: .int i :: .ref 20 :: st) (kg_w G) r h' := by
  subst hv
  exact kr_iast (a := 20) rfl hg hd kk
theorem kx_l20 (x : Int32) (hv : nI (G.2.1 20).length = x) (hd : decode M.2.1 pc = .ok (.arraylength, 1)) (kk : kv_V Z d M (pc + 1) ls (.int x :: st) (kg_w G) r h') : kv_V Z d M pc ls (.ref 20 :: st) (kg_w G) r h' := by
  subst hv
  exact kr_alen (a := 20) rfl hd kk
theorem kx_a21 {i x : Int32} (xs : List Int32) (hv : G.2.1 21 = xs) (hg : kv_g xs i = some x) (hd : decode M.2.1 pc = .ok (.iaload, 1)) (kk : kv_V Z d M (pc + 1) ls (.int x :: st) (kg_w G) r h') : kv_V Z d M pc ls (.int i :: .ref 21 :: st) (kg_w G) r h' := by
  subst hv
  exact kr_iald (a := 21) rfl hg hd kk
theorem kx_s21 {i x : Int32} {ys : List Int32} (xs : List Int32) (hv : G.2.1 21 = xs) (hg : kv_p xs i x = some ys) (hd : decode M.2.1 pc = .ok (.iastore, 1)) (kk : kv_V Z d M (pc + 1) ls st (kg_w (kg_a G 21 ys)) r h') : kv_V Z d M pc ls (.int x :: .int i :: .ref 21 :: st) (kg_w G) r h' := by
  subst hv
  exact kr_iast (a := 21) rfl hg hd kk
theorem kx_l21 (x : Int32) (hv : nI (G.2.1 21).length = x) (hd : decode M.2.1 pc = .ok (.arraylength, 1)) (kk : kv_V Z d M (pc + 1) ls (.int x :: st) (kg_w G) r h') : kv_V Z d M pc ls (.ref 21 :: st) (kg_w G) r h' := by
  subst hv
  exact kr_alen (a := 21) rfl hd kk
theorem kx_a22 {i x : Int32} (xs : List Int32) (hv : G.2.1 22 = xs) (hg : kv_g xs i = some x) (hd : decode M.2.1 pc = .ok (.iaload, 1)) (kk : kv_V Z d M (pc + 1) ls (.int x :: st) (kg_w G) r h') : kv_V Z d M pc ls (.int i :: .ref 22 :: st) (kg_w G) r h' := by
  subst hv
  exact kr_iald (a := 22) rfl hg hd kk
theorem kx_s22 {i x : Int32} {ys : List Int32} (xs : List Int32) (hv : G.2.1 22 = xs) (hg : kv_p xs i x = some ys) (hd : decode M.2.1 pc = .ok (.iastore, 1)) (kk : kv_V Z d M (pc + 1) ls st (kg_w (kg_a G 22 ys)) r h') : kv_V Z d M pc ls (.int x :: .int i :: .ref 22 :: st) (kg_w G) r h' := by
  subst hv
  exact kr_iast (a := 22) rfl hg hd kk
theorem kx_l22 (x : Int32) (hv : nI (G.2.1 22).length = x) (hd : decode M.2.1 pc = .ok (.arraylength, 1)) (kk : kv_V Z d M (pc + 1) ls (.int x :: st) (kg_w G) r h') : kv_V Z d M pc ls (.ref 22 :: st) (kg_w G) r h' := by
  subst hv
  exact kr_alen (a := 22) rfl hd kk
theorem kx_a24 {i x : Int32} (xs : List Int32) (hv : G.2.1 24 = xs) (hg : kv_g xs i = some x) (hd : decode M.2.1 pc = .ok (.iaload, 1)) (kk : kv_V Z d M (pc + 1) ls (.int x :: st) (kg_w G) r h') : kv_V Z d M pc ls (.int i :: .ref 24 :: st) (kg_w G) r h' := by
  subst hv
  exact kr_iald (a := 24) rfl hg hd kk
theorem kx_s24 {i x : Int32} {ys : List Int32} (xs : List Int32) (hv : G.2.1 24 = xs) (hg : kv_p xs i x = some ys) (hd : decode M.2.1 pc = .ok (.iastore, 1)) (kk : kv_V Z d M (pc + 1) ls st (kg_w (kg_a G 24 ys)) r h') : kv_V Z d M pc ls (.int x :: .int i :: .ref 24 :: st) (kg_w G) r h' := by
  subst hv
  exact kr_iast (a := 24) rfl hg hd kk
theorem kx_l24 (x : Int32) (hv : nI (G.2.1 24).length = x) (hd : decode M.2.1 pc = .ok (.arraylength, 1)) (kk : kv_V Z d M (pc + 1) ls (.int x :: st) (kg_w G) r h') : kv_V Z d M pc ls (.ref 24 :: st) (kg_w G) r h' := by
  subst hv
  exact kr_alen (a := 24) rfl hd kk
theorem kx_a25 {i x : Int32} (xs : List Int32) (hv : G.2.1 25 = xs) (hg : kv_g xs i = some x) (hd : decode M.2.1 pc = .ok (.iaload, 1)) (kk : kv_V Z d M (pc + 1) ls (.int x :: st) (kg_w G) r h') : kv_V Z d M pc ls (.int i :: .ref 25 :: st) (kg_w G) r h' := by
  subst hv
  exact kr_iald (a := 25) rfl hg hd kk
theorem kx_s25 {i x : Int32} {ys : List Int32} (xs : List Int32) (hv : G.2.1 25 = xs) (hg : kv_p xs i x = some ys) (hd : decode M.2.1 pc = .ok (.iastore, 1)) (kk : kv_V Z d M (pc + 1) ls st (kg_w (kg_a G 25 ys)) r h') : kv_V Z d M pc ls (.int x :: .int i :: .ref 25 :: st) (kg_w G) r h' := by
  subst hv
  exact kr_iast (a := 25) rfl hg hd kk
theorem kx_l25 (x : Int32) (hv : nI (G.2.1 25).length = x) (hd : decode M.2.1 pc = .ok (.arraylength, 1)) (kk : kv_V Z d M (pc + 1) ls (.int x :: st) (kg_w G) r h') : kv_V Z d M pc ls (.ref 25 :: st) (kg_w G) r h' := by
  subst hv
  exact kr_alen (a := 25) rfl hd kk
theorem kx_a29 {i x : Int32} (xs : List Int32) (hv : G.2.1 29 = xs) (hg : kv_g xs i = some x) (hd : decode M.2.1 pc = .ok (.iaload, 1)) (kk : kv_V Z d M (pc + 1) ls (.int x :: st) (kg_w G) r h') : kv_V Z d M pc ls (.int i :: .ref 29 :: st) (kg_w G) r h' := by
  subst hv
  exact kr_iald (a := 29) rfl hg hd kk
theorem kx_s29 {i x : Int32} {ys : List Int32} (xs : List Int32) (hv : G.2.1 29 = xs) (hg : kv_p xs i x = some ys) (hd : decode M.2.1 pc = .ok (.iastore, 1)) (kk : kv_V Z d M (pc + 1) ls st (kg_w (kg_a G 29 ys)) r h') : kv_V Z d M pc ls (.int x :: .int i :: .ref 29 :: st) (kg_w G) r h' := by
  subst hv
  exact kr_iast (a := 29) rfl hg hd kk
theorem kx_l29 (x : Int32) (hv : nI (G.2.1 29).length = x) (hd : decode M.2.1 pc = .ok (.arraylength, 1)) (kk : kv_V Z d M (pc + 1) ls (.int x :: st) (kg_w G) r h') : kv_V Z d M pc ls (.ref 29 :: st) (kg_w G) r h' := by
  subst hv
  exact kr_alen (a := 29) rfl hd kk
theorem kx_a30 {i x : Int32} (xs : List Int32) (hv : G.2.1 30 = xs) (hg : kv_g xs i = some x) (hd : decode M.2.1 pc = .ok (.iaload, 1)) (kk : kv_V Z d M (pc + 1) ls (.int x :: st) (kg_w G) r h') : kv_V Z d M pc ls (.int i :: .ref 30 :: st) (kg_w G) r h' := by
  subst hv
  exact kr_iald (a := 30) rfl hg hd kk
theorem kx_s30 {i x : Int32} {ys : List Int32} (xs : List Int32) (hv : G.2.1 30 = xs) (hg : kv_p xs i x = some ys) (hd : decode M.2.1 pc = .ok (.iastore, 1)) (kk : kv_V Z d M (pc + 1) ls st (kg_w (kg_a G 30 ys)) r h') : kv_V Z d M pc ls (.int x :: .int i :: .ref 30 :: st) (kg_w G) r h' := by
  subst hv
  exact kr_iast (a := 30) rfl hg hd kk
theorem kx_l30 (x : Int32) (hv : nI (G.2.1 30).length = x) (hd : decode M.2.1 pc = .ok (.arraylength, 1)) (kk : kv_V Z d M (pc + 1) ls (.int x :: st) (kg_w G) r h') : kv_V Z d M pc ls (.ref 30 :: st) (kg_w G) r h' := by
  subst hv
  exact kr_alen (a := 30) rfl hd kk
theorem kx_a31 {i x : Int32} (xs : List Int32) (hv : G.2.1 31 = xs) (hg : kv_g xs i = some x) (hd : decode M.2.1 pc = .ok (.iaload, 1)) (kk : kv_V Z d M (pc + 1) ls (.int x :: st) (kg_w G) r h') : kv_V Z d M pc ls (.int i :: .ref 31 :: st) (kg_w G) r h' := by
  subst hv
  exact kr_iald (a := 31) rfl hg hd kk
theorem kx_s31 {i x : Int32} {ys : List Int32} (xs : List Int32) (hv : G.2.1 31 = xs) (hg : kv_p xs i x = some ys) (hd : decode M.2.1 pc = .ok (.iastore, 1)) (kk : kv_V Z d M (pc + 1) ls st (kg_w (kg_a G 31 ys)) r h') : kv_V Z d M pc ls (.int x :: .int i :: .ref 31 :: st) (kg_w G) r h' := by
  subst hv
  exact kr_iast (a := 31) rfl hg hd kk
theorem kx_l31 (x : Int32) (hv : nI (G.2.1 31).length = x) (hd : decode M.2.1 pc = .ok (.arraylength, 1)) (kk : kv_V Z d M (pc + 1) ls (.int x :: st) (kg_w G) r h') : kv_V Z d M pc ls (.ref 31 :: st) (kg_w G) r h' := by
  subst hv
  exact kr_alen (a := 31) rfl hd kk
theorem kx_a32 {i x : Int32} (xs : List Int32) (hv : G.2.1 32 = xs) (hg : kv_g xs i = some x) (hd : decode M.2.1 pc = .ok (.iaload, 1)) (kk : kv_V Z d M (pc + 1) ls (.int x :: st) (kg_w G) r h') : kv_V Z d M pc ls (.int i :: .ref 32 :: st) (kg_w G) r h' := by
  subst hv
  exact kr_iald (a := 32) rfl hg hd kk
theorem kx_s32 {i x : Int32} {ys : List Int32} (xs : List Int32) (hv : G.2.1 32 = xs) (hg : kv_p xs i x = some ys) (hd : decode M.2.1 pc = .ok (.iastore, 1)) (kk : kv_V Z d M (pc + 1) ls st (kg_w (kg_a G 32 ys)) r h') : kv_V Z d M pc ls (.int x :: .int i :: .ref 32 :: st) (kg_w G) r h' := by
  subst hv
  exact kr_iast (a := 32) rfl hg hd kk
theorem kx_l32 (x : Int32) (hv : nI (G.2.1 32).length = x) (hd : decode M.2.1 pc = .ok (.arraylength, 1)) (kk : kv_V Z d M (pc + 1) ls (.int x :: st) (kg_w G) r h') : kv_V Z d M pc ls (.ref 32 :: st) (kg_w G) r h' := by
  subst hv
  exact kr_alen (a := 32) rfl hd kk
theorem kx_a33 {i x : Int32} (xs : List Int32) (hv : G.2.1 33 = xs) (hg : kv_g xs i = some x) (hd : decode M.2.1 pc = .ok (.iaload, 1)) (kk : kv_V Z d M (pc + 1) ls (.int x :: st) (kg_w G) r h') : kv_V Z d M pc ls (.int i :: .ref 33 :: st) (kg_w G) r h' := by
  subst hv
  exact kr_iald (a := 33) rfl hg hd kk
theorem kx_s33 {i x : Int32} {ys : List Int32} (xs : List Int32) (hv : G.2.1 33 = xs) (hg : kv_p xs i x = some ys) (hd : decode M.2.1 pc = .ok (.iastore, 1)) (kk : kv_V Z d M (pc + 1) ls st (kg_w (kg_a G 33 ys)) r h') : kv_V Z d M pc ls (.int x :: .int i :: .ref 33 :: st) (kg_w G) r h' := by
  subst hv
  exact kr_iast (a := 33) rfl hg hd kk
theorem kx_l33 (x : Int32) (hv : nI (G.2.1 33).length = x) (hd : decode M.2.1 pc = .ok (.arraylength, 1)) (kk : kv_V Z d M (pc + 1) ls (.int x :: st) (kg_w G) r h') : kv_V Z d M pc ls (.ref 33 :: st) (kg_w G) r h' := by
  subst hv
  exact kr_alen (a := 33) rfl hd kk
theorem kx_a34 {i x : Int32} (xs : List Int32) (hv : G.2.1 34 = xs) (hg : kv_g xs i = some x) (hd : decode M.2.1 pc = .ok (.iaload, 1)) (kk : kv_V Z d M (pc + 1) ls (.int x :: st) (kg_w G) r h') : kv_V Z d M pc ls (.int i :: .ref 34 :: st) (kg_w G) r h' := by
  subst hv
  exact kr_iald (a := 34) rfl hg hd kk
theorem kx_s34 {i x : Int32} {ys : List Int32} (xs : List Int32) (hv : G.2.1 34 = xs) (hg : kv_p xs i x = some ys) (hd : decode M.2.1 pc = .ok (.iastore, 1)) (kk : kv_V Z d M (pc + 1) ls st (kg_w (kg_a G 34 ys)) r h') : kv_V Z d M pc ls (.int x :: .int i :: .ref 34 :: st) (kg_w G) r h' := by
  subst hv
  exact kr_iast (a := 34) rfl hg hd kk
theorem kx_l34 (x : Int32) (hv : nI (G.2.1 34).length = x) (hd : decode M.2.1 pc = .ok (.arraylength, 1)) (kk : kv_V Z d M (pc + 1) ls (.int x :: st) (kg_w G) r h') : kv_V Z d M pc ls (.ref 34 :: st) (kg_w G) r h' := by
  subst hv
  exact kr_alen (a := 34) rfl hd kk
theorem kx_a35 {i x : Int32} (xs : List Int32) (hv : G.2.1 35 = xs) (hg : kv_g xs i = some x) (hd : decode M.2.1 pc = .ok (.iaload, 1)) (kk : kv_V Z d M (pc + 1) ls (.int x :: st) (kg_w G) r h') : kv_V Z d M pc ls (.int i :: .ref 35 :: st) (kg_w G) r h' := by
  subst hv
  exact kr_iald (a := 35) rfl hg hd kk
theorem kx_s35 {i x : Int32} {ys : List Int32} (xs : List Int32) (hv : G.2.1 35 = xs) (hg : kv_p xs i x = some ys) (hd : decode M.2.1 pc = .ok (.iastore, 1)) (kk : kv_V Z d M (pc + 1) ls st (kg_w (kg_a G 35 ys)) r h') : kv_V Z d M pc ls (.int x :: .int i :: .ref 35 :: st) (kg_w G) r h' := by
  subst hv
  exact kr_iast (a := 35) rfl hg hd kk
theorem kx_l35 (x : Int32) (hv : nI (G.2.1 35).length = x) (hd : decode M.2.1 pc = .ok (.arraylength, 1)) (kk : kv_V Z d M (pc + 1) ls (.int x :: st) (kg_w G) r h') : kv_V Z d M pc ls (.ref 35 :: st) (kg_w G) r h' := by
  subst hv
  exact kr_alen (a := 35) rfl hd kk
theorem kx_a36 {i x : Int32} (xs : List Int32) (hv : G.2.1 36 = xs) (hg : kv_g xs i = some x) (hd : decode M.2.1 pc = .ok (.iaload, 1)) (kk : kv_V Z d M (pc + 1) ls (.int x :: st) (kg_w G) r h') : kv_V Z d M pc ls (.int i :: .ref 36 :: st) (kg_w G) r h' := by
  subst hv
  exact kr_iald (a := 36) rfl hg hd kk
theorem kx_s36 {i x : Int32} {ys : List Int32} (xs : List Int32) (hv : G.2.1 36 = xs) (hg : kv_p xs i x = some ys) (hd : decode M.2.1 pc = .ok (.iastore, 1)) (kk : kv_V Z d M (pc + 1) ls st (kg_w (kg_a G 36 ys)) r h') : kv_V Z d M pc ls (.int x :: .int i :: .ref 36 :: st) (kg_w G) r h' := by
  subst hv
  exact kr_iast (a := 36) rfl hg hd kk
theorem kx_l36 (x : Int32) (hv : nI (G.2.1 36).length = x) (hd : decode M.2.1 pc = .ok (.arraylength, 1)) (kk : kv_V Z d M (pc + 1) ls (.int x :: st) (kg_w G) r h') : kv_V Z d M pc ls (.ref 36 :: st) (kg_w G) r h' := by
  subst hv
  exact kr_alen (a := 36) rfl hd kk
theorem kx_a37 {i x : Int32} (xs : List Int32) (hv : G.2.1 37 = xs) (hg : kv_g xs i = some x) (hd : decode M.2.1 pc = .ok (.iaload, 1)) (kk : kv_V Z d M (pc + 1) ls (.int x :: st) (kg_w G) r h') : kv_V Z d M pc ls (.int i :: .ref 37 :: st) (kg_w G) r h' := by
  subst hv
  exact kr_iald (a := 37) rfl hg hd kk
theorem kx_s37 {i x : Int32} {ys : List Int32} (xs : List Int32) (hv : G.2.1 37 = xs) (hg : kv_p xs i x = some ys) (hd : decode M.2.1 pc = .ok (.iastore, 1)) (kk : kv_V Z d M (pc + 1) ls st (kg_w (kg_a G 37 ys)) r h') : kv_V Z d M pc ls (.int x :: .int i :: .ref 37 :: st) (kg_w G) r h' := by
  subst hv
  exact kr_iast (a := 37) rfl hg hd kk
theorem kx_l37 (x : Int32) (hv : nI (G.2.1 37).length = x) (hd : decode M.2.1 pc = .ok (.arraylength, 1)) (kk : kv_V Z d M (pc + 1) ls (.int x :: st) (kg_w G) r h') : kv_V Z d M pc ls (.ref 37 :: st) (kg_w G) r h' := by
  subst hv
  exact kr_alen (a := 37) rfl hd kk
theorem kx_a38 {i x : Int32} (xs : List Int32) (hv : G.2.1 38 = xs) (hg : kv_g xs i = some x) (hd : decode M.2.1 pc = .ok (.iaload, 1)) (kk : kv_V Z d M (pc + 1) ls (.int x :: st) (kg_w G) r h') : kv_V Z d M pc ls (.int i :: .ref 38 :: st) (kg_w G) r h' := by
  subst hv
  exact kr_iald (a := 38) rfl hg hd kk
theorem kx_s38 {i x : Int32} {ys : List Int32} (xs : List Int32) (hv : G.2.1 38 = xs) (hg : kv_p xs i x = some ys) (hd : decode M.2.1 pc = .ok (.iastore, 1)) (kk : kv_V Z d M (pc + 1) ls st (kg_w (kg_a G 38 ys)) r h') : kv_V Z d M pc ls (.int x :: .int i :: .ref 38 :: st) (kg_w G) r h' := by
  subst hv
  exact kr_iast (a := 38) rfl hg hd kk
theorem kx_l38 (x : Int32) (hv : nI (G.2.1 38).length = x) (hd : decode M.2.1 pc = .ok (.arraylength, 1)) (kk : kv_V Z d M (pc + 1) ls (.int x :: st) (kg_w G) r h') : kv_V Z d M pc ls (.ref 38 :: st) (kg_w G) r h' := by
  subst hv
  exact kr_alen (a := 38) rfl hd kk
theorem kx_a39 {i x : Int32} (xs : List Int32) (hv : G.2.1 39 = xs) (hg : kv_g xs i = some x) (hd : decode M.2.1 pc = .ok (.iaload, 1)) (kk : kv_V Z d M (pc + 1) ls (.int x :: st) (kg_w G) r h') : kv_V Z d M pc ls (.int i :: .ref 39 :: st) (kg_w G) r h' := by
  subst hv
  exact kr_iald (a := 39) rfl hg hd kk
theorem kx_s39 {i x : Int32} {ys : List Int32} (xs : List Int32) (hv : G.2.1 39 = xs) (hg : kv_p xs i x = some ys) (hd : decode M.2.1 pc = .ok (.iastore, 1)) (kk : kv_V Z d M (pc + 1) ls st (kg_w (kg_a G 39 ys)) r h') : kv_V Z d M pc ls (.int x :: .int i :: .ref 39 :: st) (kg_w G) r h' := by
  subst hv
  exact kr_iast (a := 39) rfl hg hd kk
theorem kx_l39 (x : Int32) (hv : nI (G.2.1 39).length = x) (hd : decode M.2.1 pc = .ok (.arraylength, 1)) (kk : kv_V Z d M (pc + 1) ls (.int x :: st) (kg_w G) r h') : kv_V Z d M pc ls (.ref 39 :: st) (kg_w G) r h' := by
  subst hv
  exact kr_alen (a := 39) rfl hd kk
theorem kx_a40 {i x : Int32} (xs : List Int32) (hv : G.2.1 40 = xs) (hg : kv_g xs i = some x) (hd : decode M.2.1 pc = .ok (.iaload, 1)) (kk : kv_V Z d M (pc + 1) ls (.int x :: st) (kg_w G) r h') : kv_V Z d M pc ls (.int i :: .ref 40 :: st) (kg_w G) r h' := by
  subst hv
  exact kr_iald (a := 40) rfl hg hd kk
theorem kx_s40 {i x : Int32} {ys : List Int32} (xs : List Int32) (hv : G.2.1 40 = xs) (hg : kv_p xs i x = some ys) (hd : decode M.2.1 pc = .ok (.iastore, 1)) (kk : kv_V Z d M (pc + 1) ls st (kg_w (kg_a G 40 ys)) r h') : kv_V Z d M pc ls (.int x :: .int i :: .ref 40 :: st) (kg_w G) r h' := by
  subst hv
  exact kr_iast (a := 40) rfl hg hd kk
theorem kx_l40 (x : Int32) (hv : nI (G.2.1 40).length = x) (hd : decode M.2.1 pc = .ok (.arraylength, 1)) (kk : kv_V Z d M (pc + 1) ls (.int x :: st) (kg_w G) r h') : kv_V Z d M pc ls (.ref 40 :: st) (kg_w G) r h' := by
  subst hv
  exact kr_alen (a := 40) rfl hd kk
theorem kx_a41 {i x : Int32} (xs : List Int32) (hv : G.2.1 41 = xs) (hg : kv_g xs i = some x) (hd : decode M.2.1 pc = .ok (.iaload, 1)) (kk : kv_V Z d M (pc + 1) ls (.int x :: st) (kg_w G) r h') : kv_V Z d M pc ls (.int i :: .ref 41 :: st) (kg_w G) r h' := by
  subst hv
  exact kr_iald (a := 41) rfl hg hd kk
theorem kx_s41 {i x : Int32} {ys : List Int32} (xs : List Int32) (hv : G.2.1 41 = xs) (hg : kv_p xs i x = some ys) (hd : decode M.2.1 pc = .ok (.iastore, 1)) (kk : kv_V Z d M (pc + 1) ls st (kg_w (kg_a G 41 ys)) r h') : kv_V Z d M pc ls (.int x :: .int i :: .ref 41 :: st) (kg_w G) r h' := by
  subst hv
  exact kr_iast (a := 41) rfl hg hd kk
theorem kx_l41 (x : Int32) (hv : nI (G.2.1 41).length = x) (hd : decode M.2.1 pc = .ok (.arraylength, 1)) (kk : kv_V Z d M (pc + 1) ls (.int x :: st) (kg_w G) r h') : kv_V Z d M pc ls (.ref 41 :: st) (kg_w G) r h' := by
  subst hv
  exact kr_alen (a := 41) rfl hd kk
theorem kx_a42 {i x : Int32} (xs : List Int32) (hv : G.2.1 42 = xs) (hg : kv_g xs i = some x) (hd : decode M.2.1 pc = .ok (.iaload, 1)) (kk : kv_V Z d M (pc + 1) ls (.int x :: st) (kg_w G) r h') : kv_V Z d M pc ls (.int i :: .ref 42 :: st) (kg_w G) r h' := by
  subst hv
  exact kr_iald (a := 42) rfl hg hd kk
theorem kx_s42 {i x : Int32} {ys : List Int32} (xs : List Int32) (hv : G.2.1 42 = xs) (hg : kv_p xs i x = some ys) (hd : decode M.2.1 pc = .ok (.iastore, 1)) (kk : kv_V Z d M (pc + 1) ls st (kg_w (kg_a G 42 ys)) r h') : kv_V Z d M pc ls (.int x :: .int i :: .ref 42 :: st) (kg_w G) r h' := by
  subst hv
  exact kr_iast (a := 42) rfl hg hd kk
theorem kx_l42 (x : Int32) (hv : nI (G.2.1 42).length = x) (hd : decode M.2.1 pc = .ok (.arraylength, 1)) (kk : kv_V Z d M (pc + 1) ls (.int x :: st) (kg_w G) r h') : kv_V Z d M pc ls (.ref 42 :: st) (kg_w G) r h' := by
  subst hv
  exact kr_alen (a := 42) rfl hd kk
theorem kx_a43 {i x : Int32} (xs : List Int32) (hv : G.2.1 43 = xs) (hg : kv_g xs i = some x) (hd : decode M.2.1 pc = .ok (.iaload, 1)) (kk : kv_V Z d M (pc + 1) ls (.int x :: st) (kg_w G) r h') : kv_V Z d M pc ls (.int i :: .ref 43 :: st) (kg_w G) r h' := by
  subst hv
  exact kr_iald (a := 43) rfl hg hd kk
theorem kx_s43 {i x : Int32} {ys : List Int32} (xs : List Int32) (hv : G.2.1 43 = xs) (hg : kv_p xs i x = some ys) (hd : decode M.2.1 pc = .ok (.iastore, 1)) (kk : kv_V Z d M (pc + 1) ls st (kg_w (kg_a G 43 ys)) r h') : kv_V Z d M pc ls (.int x :: .int i :: .ref 43 :: st) (kg_w G) r h' := by
  subst hv
  exact kr_iast (a := 43) rfl hg hd kk
theorem kx_l43 (x : Int32) (hv : nI (G.2.1 43).length = x) (hd : decode M.2.1 pc = .ok (.arraylength, 1)) (kk : kv_V Z d M (pc + 1) ls (.int x :: st) (kg_w G) r h') : kv_V Z d M pc ls (.ref 43 :: st) (kg_w G) r h' := by
  subst hv
  exact kr_alen (a := 43) rfl hd kk
theorem kx_a44 {i x : Int32} (xs : List Int32) (hv : G.2.1 44 = xs) (hg : kv_g xs i = some x) (hd : decode M.2.1 pc = .ok (.iaload, 1)) (kk : kv_V Z d M (pc + 1) ls (.int x :: st) (kg_w G) r h') : kv_V Z d M pc ls (.int i :: .ref 44 :: st) (kg_w G) r h' := by
  subst hv
  exact kr_iald (a := 44) rfl hg hd kk
theorem kx_s44 {i x : Int32} {ys : List Int32} (xs : List Int32) (hv : G.2.1 44 = xs) (hg : kv_p xs i x = some ys) (hd : decode M.2.1 pc = .ok (.iastore, 1)) (kk : kv_V Z d M (pc + 1) ls st (kg_w (kg_a G 44 ys)) r h') : kv_V Z d M pc ls (.int x :: .int i :: .ref 44 :: st) (kg_w G) r h' := by
  subst hv
  exact kr_iast (a := 44) rfl hg hd kk
theorem kx_l44 (x : Int32) (hv : nI (G.2.1 44).length = x) (hd : decode M.2.1 pc = .ok (.arraylength, 1)) (kk : kv_V Z d M (pc + 1) ls (.int x :: st) (kg_w G) r h') : kv_V Z d M pc ls (.ref 44 :: st) (kg_w G) r h' := by
  subst hv
  exact kr_alen (a := 44) rfl hd kk
/-- the first n of a row over those of another -/
def kg_cp (xs ys : List Int32) (n : Int32) : Option (List Int32) := if n < 0 then none else if n.toNatClampNeg ≤ xs.length ∧ n.toNatClampNeg ≤ ys.length then some (xs.take n.toNatClampNeg ++ ys.drop n.toNatClampNeg) else none
theorem kx_cp {a b : Nat} {n : Int32} {zs : List Int32} (xs ys : List Int32) (ha : a ∈ kg_arrs) (hb : b ∈ kg_arrs) (hx : G.2.1 a = xs) (hy : G.2.1 b = ys) (hg : kg_cp xs ys n = some zs) (hl : Cond.methodLink M.1.cls idx arraycopyName ∈ kv_W) (hnat : Cond.native arraycopyName ∈ kv_W) (hst : Cond.static arraycopyName ∈ kv_W) (hini : Cond.initialized "java/lang/System" ∈ kv_W) (hcat : (st.map fun v => v.category).sum ≤ 8) (hd : decode M.2.1 pc = .ok (.invokestatic idx, 3)) (kk : kv_V Z d M (pc + 3) ls st (kg_w (kg_a G b zs)) r h') : kv_V Z d M pc ls (.int n :: .int 0 :: .ref b :: .int 0 :: .ref a :: st) (kg_w G) r h' := by
  subst hx
  subst hy
  unfold kg_cp at hg
  by_cases h1 : n < 0
  · rw [if_pos h1] at hg; cases hg
  · rw [if_neg h1] at hg
    by_cases h2 : n.toNatClampNeg ≤ (G.2.1 a).length ∧ n.toNatClampNeg ≤ (G.2.1 b).length
    · rw [if_pos h2] at hg
      cases hg
      refine kr_copy (kg_arr_w ha) (kg_arr_w hb) h1 h2.1 h2.2 hl hnat hst hini hcat hd ?_
      rw [kg_arr_s hb]
      exact kk
    · rw [if_neg h2] at hg; cases hg
end KG
