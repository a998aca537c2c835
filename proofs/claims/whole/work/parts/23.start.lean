/-! THE START: what the tables and the old heap give; the law's loop; the walk from the entry, over what the calls answer (kj_all) -/
theorem kj_int {s : State} {args : Array Value} (h : (Cond.arrayClass .int).before args s = true) : ∃ cI : ClassId, ArrOfT s cI .int ∧ va_RA s cI .int := by
  obtain ⟨c, k, comp, h1, h2, h3⟩ := Cond.arrayClass_spec h
  exact ⟨c, fun N z => ⟨(fun k h => by cases h), k, h2, comp, h3⟩, h1⟩
theorem kj_ref {s : State} {C : String} (h : va_AO C s) : ∃ cT : ClassId, ArrOfT s cT (.object C) ∧ va_RA s cT (.object C) := by
  obtain ⟨comp, c, k, h1, h2, h3, h4, h5⟩ := Cond.arrayOver_spec h
  exact ⟨c, fun N z => ⟨(fun k h => by cases h), k, h3, comp, h4⟩, k, comp, h3, h4, h1, h5⟩
set_option maxRecDepth 20000 in
set_option maxHeartbeats 8000000 in
theorem kj_K {p : Program} {s : State} {m : MethodId} {meth : Method} {c : Code} {b Ln : Nat} {xs : Nat → Int32} (l : Launch) (C0 : lw_At p s m meth c b Ln xs) : ∃ (D : va_G) (cI cT : ClassId) (aS aV : Nat), kv_K (l, D, cI, cT, s.heap.size, aS, aV) s := by
  obtain ⟨hx, hb, hr, hml, hown, hts, hX, hbl, hlocks, hgv⟩ := C0
  obtain ⟨c0, i0, hk0⟩ := u_known (C := RX0) (T := TX0) (N := 2) (n := 2) hts (fun w hw => (kv_W_good (kin0 w hw)).1) (hts _ (kv_W_good kw1_170).1)
  obtain ⟨c1, i1, hk1⟩ := u_known (C := RX1) (T := TX1) (N := 3) (n := 3) hts (fun w hw => (kv_W_good (kin1 w hw)).1) (hts _ (kv_W_good kw2_166).1)
  obtain ⟨c2, i2, hk2⟩ := u_known (C := RX2) (T := TX2) (N := 2) (n := 2) hts (fun w hw => (kv_W_good (kin2 w hw)).1) (hts _ (kv_W_good kw1_31).1)
  obtain ⟨c3, i3, hk3⟩ := u_known (C := RX3) (T := TX3) (N := 3) (n := 3) hts (fun w hw => (kv_W_good (kin3 w hw)).1) (hts _ (kv_W_good kw2_130).1)
  obtain ⟨c4, i4, hk4⟩ := u_known (C := RX4) (T := TX4) (N := 8) (n := 8) hts (fun w hw => (kv_W_good (kin4 w hw)).1) (hts _ (kv_W_good kw1_110).1)
  obtain ⟨c5, i5, hk5⟩ := u_known (C := RX5) (T := TX5) (N := 3) (n := 3) hts (fun w hw => (kv_W_good (kin5 w hw)).1) (hts _ (kv_W_good kw2_176).1)
  obtain ⟨c6, i6, hk6⟩ := u_known (C := RX6) (T := TX6) (N := 3) (n := 3) hts (fun w hw => (kv_W_good (kin6 w hw)).1) (hts _ (kv_W_good kw2_156).1)
  obtain ⟨c7, i7, hk7⟩ := u_known (C := RX7) (T := TX7) (N := 6) (n := 6) hts (fun w hw => (kv_W_good (kin7 w hw)).1) (hts _ (kv_W_good kw1_142).1)
  obtain ⟨c8, i8, hk8⟩ := u_known (C := RX8) (T := TX8) (N := 3) (n := 3) hts (fun w hw => (kv_W_good (kin8 w hw)).1) (hts _ (kv_W_good kw2_185).1)
  obtain ⟨c9, i9, hk9⟩ := u_known (C := RX9) (T := TX9) (N := 14) (n := 14) hts (fun w hw => (kv_W_good (kin9 w hw)).1) (hts _ (kv_W_good kw1_47).1)
  obtain ⟨c10, i10, hk10⟩ := u_known (C := RX10) (T := TX10) (N := 11) (n := 11) hts (fun w hw => (kv_W_good (kin10 w hw)).1) (hts _ (kv_W_good kw1_23).1)
  obtain ⟨c11, i11, hk11⟩ := u_known (C := RX11) (T := TX11) (N := 42) (n := 42) hts (fun w hw => (kv_W_good (kin11 w hw)).1) (hts _ (kv_W_good kw4_132).1)
  obtain ⟨dC, dI, hKc⟩ : ∃ (dC : Nat → ClassId) (dI : Nat → Nat → Nat), ∀ (k : Nat) (q : vw_C), vwCl[k]? = some q → u_Kn s q.1 q.2.1 q.2.2 (dC k) (dI k) := by
    refine ⟨fun k => if k = 0 then c0 else if k = 1 then c1 else if k = 2 then c2 else if k = 3 then c3 else if k = 4 then c4 else if k = 5 then c5 else if k = 6 then c6 else if k = 7 then c7 else if k = 8 then c8 else if k = 9 then c9 else if k = 10 then c10 else c11, fun k => if k = 0 then i0 else if k = 1 then i1 else if k = 2 then i2 else if k = 3 then i3 else if k = 4 then i4 else if k = 5 then i5 else if k = 6 then i6 else if k = 7 then i7 else if k = 8 then i8 else if k = 9 then i9 else if k = 10 then i10 else i11, ?_⟩
    intro k q hq
    match k, hq with
    | 0, hq => cases hq; exact hk0
    | 1, hq => cases hq; exact hk1
    | 2, hq => cases hq; exact hk2
    | 3, hq => cases hq; exact hk3
    | 4, hq => cases hq; exact hk4
    | 5, hq => cases hq; exact hk5
    | 6, hq => cases hq; exact hk6
    | 7, hq => cases hq; exact hk7
    | 8, hq => cases hq; exact hk8
    | 9, hq => cases hq; exact hk9
    | 10, hq => cases hq; exact hk10
    | 11, hq => cases hq; exact hk11
    | k + 12, hq => simp [vwCl] at hq
  have hao : va_AO RX8 s := va_AO.of (hts _ (List.mem_append_right _ (List.mem_append_left _ (List.mem_of_getElem? (i := 172) (by decide +kernel)))))
  obtain ⟨cI, hI⟩ := kj_int (hts (.arrayClass .int) (kv_W_good kw1_45).1)
  obtain ⟨cT, hT⟩ := kj_ref hao
  have hs := flat_of_before _ hgv
  have hA : ∀ a : Nat, a < s.heap.size → ¬ (fun q : Nat => s.heap.size ≤ q) a := fun a h => Nat.not_le.mpr h
  obtain ⟨adK, adV, hS, hev⟩ := vk_Sof (args := #[Value.ref b]) (s := s) (N := 1) (tm := fun _ => (Term.string "KeptVolunteers$Page" 34)) (len := [5]) (byt := kv_byt) (A := fun q : Nat => s.heap.size ≤ q)
    (fun i hi => by obtain rfl : i = 0 := by omega
                    decide) (fun i hi => hs _ (by decide +kernel)) (fun i hi => hs _ (by decide +kernel)) (fun i hi => hs _ (by decide +kernel))
    (fun i hi => by obtain rfl : i = 0 := by omega
                    exact hs _ (by decide +kernel))
    (fun i hi j hj => by
      obtain rfl : i = 0 := by omega
      have hj : j < 5 := hj
      rcases (show j = 0 ∨ j = 1 ∨ j = 2 ∨ j = 3 ∨ j = 4 by omega) with rfl | rfl | rfl | rfl | rfl <;> exact hs _ (by decide +kernel))
    (fun i j hi hj hij => absurd (show i = j by omega) hij) hA
  refine ⟨(dC, dI), cI, cT, adK 0, adV 0, ⟨hKc, fun k q hq => ?_⟩, ?_, hao, ?_, ?_, vk_R.of (A := #[Value.ref b]) (hts _ (List.mem_append_right _ (List.mem_append_right _ (List.mem_append_left _ (List.mem_of_getElem? (i := 22) (by decide +kernel)))))) (hev 0 (by omega)), ?_, ?_⟩
  · match k, hq with
    | 0, hq => cases hq; exact hI
    | 1, hq => cases hq; exact hT
    | k + 2, hq => simp at hq
  · intro q hq
    simp only [kv_nest, List.mem_cons, List.not_mem_nil, or_false] at hq
    rcases hq with rfl | rfl | rfl | rfl | rfl | rfl | rfl
    · exact va_Nw.of rfl (hts _ (List.mem_append_right _ (List.mem_append_right _ (List.mem_append_right _ (List.mem_append_left _ (List.mem_of_getElem? (i := 46) (by decide +kernel)))))))
    · exact va_Nw.of rfl (hts _ (List.mem_append_right _ (List.mem_append_right _ (List.mem_append_right _ (List.mem_append_right _ (List.mem_append_left _ (List.mem_of_getElem? (i := 78) (by decide +kernel))))))))
    · exact va_Nw.of rfl (hts _ (List.mem_append_right _ (List.mem_append_right _ (List.mem_append_right _ (List.mem_append_left _ (List.mem_of_getElem? (i := 172) (by decide +kernel)))))))
    · exact va_Nw.of rfl (hts _ (List.mem_append_right _ (List.mem_append_right _ (List.mem_append_right _ (List.mem_append_left _ (List.mem_of_getElem? (i := 15) (by decide +kernel)))))))
    · exact va_Nw.of rfl (hts _ (List.mem_append_right _ (List.mem_append_left _ (List.mem_of_getElem? (i := 32) (by decide +kernel)))))
    · exact va_Nw.of rfl (hts _ (List.mem_append_right _ (List.mem_append_left _ (List.mem_of_getElem? (i := 143) (by decide +kernel)))))
    · exact va_Nw.of rfl (hts _ (List.mem_append_right _ (List.mem_append_left _ (List.mem_of_getElem? (i := 48) (by decide +kernel)))))
  · intro q hq
    simp only [kv_can, List.mem_cons, List.not_mem_nil, or_false] at hq
    rcases hq with rfl | rfl | rfl | rfl | rfl
    · exact va_Nw.of rfl (hts _ (List.mem_append_right _ (List.mem_append_right _ (List.mem_append_right _ (List.mem_append_right _ (List.mem_append_right _ (List.mem_append_right _ ((List.mem_of_getElem? (i := 86) (by decide +kernel))))))))))
    · exact va_Nw.of rfl (hts _ (List.mem_append_right _ (List.mem_append_right _ (List.mem_append_right _ (List.mem_append_right _ (List.mem_append_right _ (List.mem_append_right _ ((List.mem_of_getElem? (i := 84) (by decide +kernel))))))))))
    · exact va_Nw.of rfl (hts _ (List.mem_append_right _ (List.mem_append_right _ (List.mem_append_right _ (List.mem_append_right _ (List.mem_append_right _ (List.mem_append_right _ ((List.mem_of_getElem? (i := 87) (by decide +kernel))))))))))
    · exact va_Nw.of rfl (hts _ (List.mem_append_right _ (List.mem_append_right _ (List.mem_append_right _ (List.mem_append_right _ (List.mem_append_right _ (List.mem_append_right _ ((List.mem_of_getElem? (i := 85) (by decide +kernel))))))))))
    · exact va_Nw.of rfl (hts _ (List.mem_append_right _ (List.mem_append_right _ (List.mem_append_right _ (List.mem_append_right _ (List.mem_append_right _ (List.mem_append_right _ ((List.mem_of_getElem? (i := 83) (by decide +kernel))))))))))
  · intro q hq
    simp only [kv_cannot, List.mem_cons, List.not_mem_nil, or_false] at hq
    rcases hq with rfl | rfl | rfl | rfl | rfl | rfl | rfl | rfl | rfl | rfl | rfl | rfl | rfl | rfl | rfl <;> exact va_Nc.of (hs _ (by decide +kernel))
  · refine ⟨fun i hi => ?_, fun i j hi hj _ => by omega⟩
    obtain rfl : i = 0 := by omega
    exact hS.1 0 (by omega)
  · exact va_Zof (hts _ (List.mem_append_right _ (List.mem_append_right _ (List.mem_append_left _ (List.mem_of_getElem? (i := 36) (by decide +kernel)))))) (hts _ (kv_W_good kw1_8).1) (va_eqi (hs _ (by decide +kernel))) hA
set_option maxRecDepth 20000 in
set_option maxHeartbeats 8000000 in
theorem kl_loop {p : Program} {e : Env} {s : State} {m : MethodId} {below : List Frame} {meth : Method} {c : Code} {b Ln : Nat} {xs : Nat → Int32} {Z : kv_Z} (hLn : Ln ≤ 256) (C0 : lw_At p s m meth c b Ln xs) (hK : kv_K Z s) (hs0 : s.heap.size = kv_b Z) {J : Nat → kg_G → Prop} (hJ : kj_all J) (hJm : ∀ k G, J k G → J (k + 1) G) (hJs : ∀ k G, J k G → kv_sl (kg_w G) ≤ 3000 + kv_sl (kg_Y G)) :
    ∀ (n k : Nat), 65 ≤ k + n → ∀ (G : kg_G) (H : Heap) (locs : List Loc) (L : Array Slot), J k G → (kg_Y G).length ≤ 7 * k → kv_sl (kg_Y G) ≤ 30 * k → k ≤ 64 → va_P (kv_D Z) vwCl (kv_w Z (kg_w G)) H → va_S (kv_A Z) s.heap H locs → lv_has L 4 [(0, .ref b), (1, .ref (kv_b Z + 0)), (2, .ref (kv_b Z + 28)), (3, .int (nI (4 * k)))] →
    W p Z.1 e room_1 s m #[Value.ref b] below meth c H locs (kg_w G).length (kv_sl (kg_w G)) (lw_Z below #[Value.ref b] s) (F0 m 18 L []) := by
  obtain ⟨hx, hb, hr, hml, hown, hts, hX, hbl, hlocks, hgv⟩ := id C0
  have hbA : ¬ kv_A Z b := by show ¬ kv_b Z ≤ b; rw [← hs0]; exact Nat.not_le.mpr hbl
  intro n
  induction n with
  | zero => intro k hk G H locs L hG h1 h2 h3; omega
  | succ n ih =>
    intro k hk G H locs L hG hY1 hY2 hk64 hP hS hLs
    refine lv_iload_n hx hb dL_law_18 rfl (lv_at hLs 3 rfl) ?_
    refine lv_aload_n hx hb dL_law_19 rfl (lv_at hLs 0 rfl) ?_
    refine va_slen hx hb hX hbl hbA hS dL_law_20 ?_
    refine lv_iconst (v := 4) hx hb dL_law_21 (by decide) ?_
    refine lv_isub hx hb dL_law_22 ?_
    have hrm := hJs k G hG
    have hlen : (kg_w G).length = (kg_Y G).length + 45 := rfl
    have eT : (Int32.ofNat Ln - 4).toInt = (Ln : Int) - 4 := pk_sub_toInt (a := Ln) (b := 4) (by omega) (by omega)
    have eK : (nI (4 * k)).toInt = ((4 * k : Nat) : Int) := nI_toInt (by omega)
    refine lv_icmp_gt (tgt := 816) hx hb dL_law_23 rfl (fun c23 => ?_) (fun c23 => ?_)
    · refine lv_iconst (v := 1) hx hb dL_law_816 (by decide) ?_
      refine va_forget (fun q hq => by rw [hs0]; exact hS.2.2 q hq) ?_
      refine W.widen (k := 600000) (n := 7302250) (by omega) (by omega) ?_
      exact lw_ret hx hb hr hlocks dL_law_817
    have hge : 4 * k + 4 ≤ Ln := by
      have : ¬ (Int32.ofNat Ln - 4).toInt < (nI (4 * k)).toInt := fun z => c23 (Int32.lt_iff_toInt_lt.mpr z)
      rw [eT, eK] at this
      omega
    have hi0 : vp_in (nI (4 * k)) Ln := vp_in_nI (by omega) (by omega)
    have hi1 : vp_in (nI (4 * k) + 1) Ln := by rw [show nI (4 * k) + 1 = nI (4 * k + 1) from nI_add _ 1]; exact vp_in_nI (by omega) (by omega)
    have hi2 : vp_in (nI (4 * k) + 2) Ln := by rw [show nI (4 * k) + 2 = nI (4 * k + 2) from nI_add _ 2]; exact vp_in_nI (by omega) (by omega)
    have hi3 : vp_in (nI (4 * k) + 3) Ln := by rw [show nI (4 * k) + 3 = nI (4 * k + 3) from nI_add _ 3]; exact vp_in_nI (by omega) (by omega)
    have hroom : ∀ G2, J (k + 1) G2 → kj_b G G2 → (kg_w G2).length ≤ 600000 ∧ kv_sl (kg_w G2) ≤ 7302250 := by
      intro G2 hJ2 hb2
      have q1 := hJs (k + 1) G2 hJ2
      have q2 : (kg_w G2).length = (kg_Y G2).length + 45 := rfl
      obtain ⟨q3, q4⟩ := hb2
      omega
    have tail : ∀ (G2 : kg_G) (H1 : Heap) (locs1 : List Loc), J (k + 1) G2 → kj_b G G2 → va_P (kv_D Z) vwCl (kv_w Z (kg_w G2)) H1 → va_S (kv_A Z) s.heap H1 locs1 → W p Z.1 e room_1 s m #[Value.ref b] below meth c H1 locs1 (kg_w G2).length (kv_sl (kg_w G2)) (lw_Z below #[Value.ref b] s) (F0 m 810 L []) := by
      intro G2 H1 locs1 hJ2 hb2 q1 q2
      refine lv_iinc (v := nI (4 * (k + 1))) (lv' := [(3, .int (nI (4 * (k + 1)))), (0, .ref b), (1, .ref (kv_b Z + 0)), (2, .ref (kv_b Z + 28))]) hx hb dL_law_810 hLs (k := 3) rfl (nI_add (4 * k) 4) (by decide) rfl (fun L2 hL2 => ?_)
      refine lv_goto (tgt := 18) hx hb dL_law_813 (by decide) ?_
      obtain ⟨b1, b2⟩ := hb2
      exact ih (k + 1) (by omega) G2 H1 locs1 L2 hJ2 (by omega) (by omega) (by omega) q1 q2 (lv_sub hL2 [1, 2, 3, 0] rfl)
    refine lv_aload_n hx hb dL_law_26 rfl (lv_at hLs 0 rfl) ?_
    refine lv_iload_n hx hb dL_law_27 rfl (lv_at hLs 3 rfl) ?_
    refine va_sld hx hb hX hbl hbA hS hi0 dL_law_28 ?_
    refine lv_bipush (v := 31) hx hb dL_law_29 (by decide) ?_
    refine lv_iand hx hb dL_law_31 ?_
    obtain ⟨j, hj, ej⟩ := pk_andE (xs (nI (4 * k)).toNatClampNeg) (m := 31) 5 (by decide)
    rw [ej]
    have hj : j < 32 := hj
    rcases (show j = 0 ∨ j = 1 ∨ j = 2 ∨ j = 3 ∨ j = 4 ∨ j = 5 ∨ j = 6 ∨ j = 7 ∨ j = 8 ∨ j = 9 ∨ j = 10 ∨ j = 11 ∨ j = 12 ∨ j = 13 ∨ j = 14 ∨ j = 15 ∨ j = 16 ∨ j = 17 ∨ j = 18 ∨ j = 19 ∨ j = 20 ∨ j = 21 ∨ j = 22 ∨ j = 23 ∨ j = 24 ∨ j = 25 ∨ j = 26 ∨ j = 27 ∨ j = 28 ∨ j = 29 ∨ j = 30 ∨ j = 31 by omega) with rfl | rfl | rfl | rfl | rfl | rfl | rfl | rfl | rfl | rfl | rfl | rfl | rfl | rfl | rfl | rfl | rfl | rfl | rfl | rfl | rfl | rfl | rfl | rfl | rfl | rfl | rfl | rfl | rfl | rfl | rfl | rfl
    · refine lv_tableIn (off := 124) (tgt := 156) hx hb dL_law_32 (by decide) (by decide) (by decide) rfl ?_
      have hkk : k < 64 := by omega
      obtain ⟨r, G1, G2, h1, h2, hJ2, hb2⟩ := (hJ.1 (xs (nI (4 * k) + 1).toNatClampNeg)) k G hkk hG
      have hr := hroom G2 hJ2 hb2
      exact kl_case_letter C0 hK hs0 hLs hi1 hi2 hi3 hP hS h1 h2 hr.1 hr.2 (fun H1 locs1 q1 q2 => tail G2 H1 locs1 hJ2 hb2 q1 q2)
    · refine lv_tableIn (off := 147) (tgt := 179) hx hb dL_law_32 (by decide) (by decide) (by decide) rfl ?_
      have hkk : k < 64 := by omega
      obtain ⟨r, G1, G2, h1, h2, hJ2, hb2⟩ := (hJ.2.1) k G hkk hG
      have hr := hroom G2 hJ2 hb2
      exact kl_case_blank C0 hK hs0 hLs hi1 hi2 hi3 hP hS h1 h2 hr.1 hr.2 (fun H1 locs1 q1 q2 => tail G2 H1 locs1 hJ2 hb2 q1 q2)
    · refine lv_tableIn (off := 160) (tgt := 192) hx hb dL_law_32 (by decide) (by decide) (by decide) rfl ?_
      have hkk : k < 64 := by omega
      obtain ⟨r, G1, G2, h1, h2, hJ2, hb2⟩ := (hJ.2.2.1) k G hkk hG
      have hr := hroom G2 hJ2 hb2
      exact kl_case_fault C0 hK hs0 hLs hi1 hi2 hi3 hP hS h1 h2 hr.1 hr.2 (fun H1 locs1 q1 q2 => tail G2 H1 locs1 hJ2 hb2 q1 q2)
    · refine lv_tableIn (off := 173) (tgt := 205) hx hb dL_law_32 (by decide) (by decide) (by decide) rfl ?_
      have hkk : k < 64 := by omega
      obtain ⟨r, G1, G2, h1, h2, hJ2, hb2⟩ := (hJ.2.2.2.1) k G hkk hG
      have hr := hroom G2 hJ2 hb2
      exact kl_case_show C0 hK hs0 hLs hi1 hi2 hi3 hP hS h1 h2 hr.1 hr.2 (fun H1 locs1 q1 q2 => tail G2 H1 locs1 hJ2 hb2 q1 q2)
    · refine lv_tableIn (off := 186) (tgt := 218) hx hb dL_law_32 (by decide) (by decide) (by decide) rfl ?_
      have hkk : k < 64 := by omega
      obtain ⟨r, G1, G2, h1, h2, hJ2, hb2⟩ := (hJ.2.2.2.2.1 (xs (nI (4 * k) + 1).toNatClampNeg) (xs (nI (4 * k) + 2).toNatClampNeg)) k G hkk hG
      have hr := hroom G2 hJ2 hb2
      exact kl_case_trick C0 hK hs0 hLs hi1 hi2 hi3 hP hS h1 h2 hr.1 hr.2 (fun H1 locs1 q1 q2 => tail G2 H1 locs1 hJ2 hb2 q1 q2)
    · refine lv_tableIn (off := 219) (tgt := 251) hx hb dL_law_32 (by decide) (by decide) (by decide) rfl ?_
      have hkk : k < 64 := by omega
      obtain ⟨r, G1, G2, h1, h2, hJ2, hb2⟩ := (hJ.2.2.2.2.2.1 (xs (nI (4 * k) + 1).toNatClampNeg) (xs (nI (4 * k) + 2).toNatClampNeg)) k G hkk hG
      have hr := hroom G2 hJ2 hb2
      exact kl_case_as C0 hK hs0 hLs hi1 hi2 hi3 hP hS h1 h2 hr.1 hr.2 (fun H1 locs1 q1 q2 => tail G2 H1 locs1 hJ2 hb2 q1 q2)
    · refine lv_tableIn (off := 252) (tgt := 284) hx hb dL_law_32 (by decide) (by decide) (by decide) rfl ?_
      have hkk : k < 64 := by omega
      obtain ⟨r, G1, G2, h1, h2, hJ2, hb2⟩ := (hJ.2.2.2.2.2.2.1 (xs (nI (4 * k) + 1).toNatClampNeg) (xs (nI (4 * k) + 2).toNatClampNeg)) k G hkk hG
      have hr := hroom G2 hJ2 hb2
      exact kl_case_person C0 hK hs0 hLs hi1 hi2 hi3 hP hS h1 h2 hr.1 hr.2 (fun H1 locs1 q1 q2 => tail G2 H1 locs1 hJ2 hb2 q1 q2)
    · refine lv_tableIn (off := 285) (tgt := 317) hx hb dL_law_32 (by decide) (by decide) (by decide) rfl ?_
      have hkk : k < 64 := by omega
      obtain ⟨r, G1, G2, h1, h2, hJ2, hb2⟩ := (hJ.2.2.2.2.2.2.2.1 (xs (nI (4 * k) + 1).toNatClampNeg) (xs (nI (4 * k) + 2).toNatClampNeg)) k G hkk hG
      have hr := hroom G2 hJ2 hb2
      exact kl_case_cast C0 hK hs0 hLs hi1 hi2 hi3 hP hS h1 h2 hr.1 hr.2 (fun H1 locs1 q1 q2 => tail G2 H1 locs1 hJ2 hb2 q1 q2)
    · refine lv_tableIn (off := 318) (tgt := 350) hx hb dL_law_32 (by decide) (by decide) (by decide) rfl ?_
      have hkk : k < 64 := by omega
      obtain ⟨r, G1, G2, h1, h2, hJ2, hb2⟩ := (hJ.2.2.2.2.2.2.2.2.1 (xs (nI (4 * k) + 1).toNatClampNeg) (xs (nI (4 * k) + 2).toNatClampNeg)) k G hkk hG
      have hr := hroom G2 hJ2 hb2
      exact kl_case_drop C0 hK hs0 hLs hi1 hi2 hi3 hP hS h1 h2 hr.1 hr.2 (fun H1 locs1 q1 q2 => tail G2 H1 locs1 hJ2 hb2 q1 q2)
    · refine lv_tableIn (off := 351) (tgt := 383) hx hb dL_law_32 (by decide) (by decide) (by decide) rfl ?_
      have hkk : k < 64 := by omega
      obtain ⟨r, G1, G2, h1, h2, hJ2, hb2⟩ := (hJ.2.2.2.2.2.2.2.2.2.1) k G hkk hG
      have hr := hroom G2 hJ2 hb2
      exact kl_case_clear C0 hK hs0 hLs hi1 hi2 hi3 hP hS h1 h2 hr.1 hr.2 (fun H1 locs1 q1 q2 => tail G2 H1 locs1 hJ2 hb2 q1 q2)
    · refine lv_tableIn (off := 364) (tgt := 396) hx hb dL_law_32 (by decide) (by decide) (by decide) rfl ?_
      have hkk : k < 64 := by omega
      obtain ⟨r, G1, G2, h1, h2, hJ2, hb2⟩ := (hJ.2.2.2.2.2.2.2.2.2.2.1) k G hkk hG
      have hr := hroom G2 hJ2 hb2
      exact kl_case_fill C0 hK hs0 hLs hi1 hi2 hi3 hP hS h1 h2 hr.1 hr.2 (fun H1 locs1 q1 q2 => tail G2 H1 locs1 hJ2 hb2 q1 q2)
    · refine lv_tableIn (off := 377) (tgt := 409) hx hb dL_law_32 (by decide) (by decide) (by decide) rfl ?_
      have hkk : k < 64 := by omega
      obtain ⟨r, G1, G2, h1, h2, hJ2, hb2⟩ := (hJ.2.2.2.2.2.2.2.2.2.2.2.1) k G hkk hG
      have hr := hroom G2 hJ2 hb2
      exact kl_case_night C0 hK hs0 hLs hi1 hi2 hi3 hP hS h1 h2 hr.1 hr.2 (fun H1 locs1 q1 q2 => tail G2 H1 locs1 hJ2 hb2 q1 q2)
    · refine lv_tableIn (off := 390) (tgt := 422) hx hb dL_law_32 (by decide) (by decide) (by decide) rfl ?_
      have hkk : k < 64 := by omega
      obtain ⟨r, G1, G2, h1, h2, hJ2, hb2⟩ := (hJ.2.2.2.2.2.2.2.2.2.2.2.2.1 (xs (nI (4 * k) + 1).toNatClampNeg)) k G hkk hG
      have hr := hroom G2 hJ2 hb2
      exact kl_case_move C0 hK hs0 hLs hi1 hi2 hi3 hP hS h1 h2 hr.1 hr.2 (fun H1 locs1 q1 q2 => tail G2 H1 locs1 hJ2 hb2 q1 q2)
    · refine lv_tableIn (off := 429) (tgt := 461) hx hb dL_law_32 (by decide) (by decide) (by decide) rfl ?_
      have hkk : k < 64 := by omega
      obtain ⟨r, G1, G2, h1, h2, hJ2, hb2⟩ := (hJ.2.2.2.2.2.2.2.2.2.2.2.2.2.1 (xs (nI (4 * k) + 1).toNatClampNeg)) k G hkk hG
      have hr := hroom G2 hJ2 hb2
      exact kl_case_letGo C0 hK hs0 hLs hi1 hi2 hi3 hP hS h1 h2 hr.1 hr.2 (fun H1 locs1 q1 q2 => tail G2 H1 locs1 hJ2 hb2 q1 q2)
    · refine lv_tableIn (off := 452) (tgt := 484) hx hb dL_law_32 (by decide) (by decide) (by decide) rfl ?_
      have hkk : k < 64 := by omega
      obtain ⟨r, G1, G2, h1, h2, hJ2, hb2⟩ := (hJ.2.2.2.2.2.2.2.2.2.2.2.2.2.2.1 (xs (nI (4 * k) + 1).toNatClampNeg) (xs (nI (4 * k) + 2).toNatClampNeg)) k G hkk hG
      have hr := hroom G2 hJ2 hb2
      exact kl_case_call C0 hK hs0 hLs hi1 hi2 hi3 hP hS h1 h2 hr.1 hr.2 (fun H1 locs1 q1 q2 => tail G2 H1 locs1 hJ2 hb2 q1 q2)
    · refine lv_tableIn (off := 485) (tgt := 517) hx hb dL_law_32 (by decide) (by decide) (by decide) rfl ?_
      have hkk : k < 64 := by omega
      obtain ⟨r, G1, G2, h1, h2, hJ2, hb2⟩ := (hJ.2.2.2.2.2.2.2.2.2.2.2.2.2.2.2.1 (xs (nI (4 * k) + 1).toNatClampNeg)) k G hkk hG
      have hr := hroom G2 hJ2 hb2
      exact kl_case_most C0 hK hs0 hLs hi1 hi2 hi3 hP hS h1 h2 hr.1 hr.2 (fun H1 locs1 q1 q2 => tail G2 H1 locs1 hJ2 hb2 q1 q2)
    · refine lv_tableIn (off := 508) (tgt := 540) hx hb dL_law_32 (by decide) (by decide) (by decide) rfl ?_
      have hkk : k < 64 := by omega
      obtain ⟨r, G1, G2, h1, h2, hJ2, hb2⟩ := (hJ.2.2.2.2.2.2.2.2.2.2.2.2.2.2.2.2.1 (xs (nI (4 * k) + 1).toNatClampNeg)) k G hkk hG
      have hr := hroom G2 hJ2 hb2
      exact kl_case_fewest C0 hK hs0 hLs hi1 hi2 hi3 hP hS h1 h2 hr.1 hr.2 (fun H1 locs1 q1 q2 => tail G2 H1 locs1 hJ2 hb2 q1 q2)
    · refine lv_tableIn (off := 531) (tgt := 563) hx hb dL_law_32 (by decide) (by decide) (by decide) rfl ?_
      have hkk : k < 64 := by omega
      obtain ⟨r, G1, G2, h1, h2, hJ2, hb2⟩ := (hJ.2.2.2.2.2.2.2.2.2.2.2.2.2.2.2.2.2.1) k G hkk hG
      have hr := hroom G2 hJ2 hb2
      exact kl_case_spare C0 hK hs0 hLs hi1 hi2 hi3 hP hS h1 h2 hr.1 hr.2 (fun H1 locs1 q1 q2 => tail G2 H1 locs1 hJ2 hb2 q1 q2)
    · refine lv_tableIn (off := 544) (tgt := 576) hx hb dL_law_32 (by decide) (by decide) (by decide) rfl ?_
      have hkk : k < 64 := by omega
      obtain ⟨r, G1, G2, h1, h2, hJ2, hb2⟩ := (hJ.2.2.2.2.2.2.2.2.2.2.2.2.2.2.2.2.2.2.1 (xs (nI (4 * k) + 1).toNatClampNeg)) k G hkk hG
      have hr := hroom G2 hJ2 hb2
      exact kl_case_wants C0 hK hs0 hLs hi1 hi2 hi3 hP hS h1 h2 hr.1 hr.2 (fun H1 locs1 q1 q2 => tail G2 H1 locs1 hJ2 hb2 q1 q2)
    · refine lv_tableIn (off := 567) (tgt := 599) hx hb dL_law_32 (by decide) (by decide) (by decide) rfl ?_
      have hkk : k < 64 := by omega
      obtain ⟨r, G1, G2, h1, h2, hJ2, hb2⟩ := (hJ.2.2.2.2.2.2.2.2.2.2.2.2.2.2.2.2.2.2.2.1 (xs (nI (4 * k) + 1).toNatClampNeg) (xs (nI (4 * k) + 2).toNatClampNeg)) k G hkk hG
      have hr := hroom G2 hJ2 hb2
      exact kl_case_route C0 hK hs0 hLs hi1 hi2 hi3 hP hS h1 h2 hr.1 hr.2 (fun H1 locs1 q1 q2 => tail G2 H1 locs1 hJ2 hb2 q1 q2)
    · refine lv_tableIn (off := 600) (tgt := 632) hx hb dL_law_32 (by decide) (by decide) (by decide) rfl ?_
      have hkk : k < 64 := by omega
      obtain ⟨r, G1, G2, h1, h2, hJ2, hb2⟩ := (hJ.2.2.2.2.2.2.2.2.2.2.2.2.2.2.2.2.2.2.2.2.1 (xs (nI (4 * k) + 1).toNatClampNeg) (xs (nI (4 * k) + 2).toNatClampNeg) (xs (nI (4 * k) + 3).toNatClampNeg)) k G hkk hG
      have hr := hroom G2 hJ2 hb2
      exact kl_case_see C0 hK hs0 hLs hi1 hi2 hi3 hP hS h1 h2 hr.1 hr.2 (fun H1 locs1 q1 q2 => tail G2 H1 locs1 hJ2 hb2 q1 q2)
    · refine lv_tableIn (off := 659) (tgt := 691) hx hb dL_law_32 (by decide) (by decide) (by decide) rfl ?_
      have hkk : k < 64 := by omega
      obtain ⟨r, G1, G2, h1, h2, hJ2, hb2⟩ := (hJ.2.2.2.2.2.2.2.2.2.2.2.2.2.2.2.2.2.2.2.2.2.1) k G hkk hG
      have hr := hroom G2 hJ2 hb2
      exact kl_case_forget C0 hK hs0 hLs hi1 hi2 hi3 hP hS h1 h2 hr.1 hr.2 (fun H1 locs1 q1 q2 => tail G2 H1 locs1 hJ2 hb2 q1 q2)
    · refine lv_tableIn (off := 672) (tgt := 704) hx hb dL_law_32 (by decide) (by decide) (by decide) rfl ?_
      have hkk : k < 64 := by omega
      obtain ⟨r, G1, G2, h1, h2, hJ2, hb2⟩ := (hJ.2.2.2.2.2.2.2.2.2.2.2.2.2.2.2.2.2.2.2.2.2.2.1 (xs (nI (4 * k) + 1).toNatClampNeg) (xs (nI (4 * k) + 2).toNatClampNeg) (xs (nI (4 * k) + 3).toNatClampNeg)) k G hkk hG
      have hr := hroom G2 hJ2 hb2
      exact kl_case_tours C0 hK hs0 hLs hi1 hi2 hi3 hP hS h1 h2 hr.1 hr.2 (fun H1 locs1 q1 q2 => tail G2 H1 locs1 hJ2 hb2 q1 q2)
    · refine lv_tableIn (off := 715) (tgt := 747) hx hb dL_law_32 (by decide) (by decide) (by decide) rfl ?_
      have hkk : k < 64 := by omega
      obtain ⟨r, G1, G2, h1, h2, hJ2, hb2⟩ := (hJ.2.2.2.2.2.2.2.2.2.2.2.2.2.2.2.2.2.2.2.2.2.2.2.1) k G hkk hG
      have hr := hroom G2 hJ2 hb2
      exact kl_case_image C0 hK hs0 hLs hi1 hi2 hi3 hP hS h1 h2 hr.1 hr.2 (fun H1 locs1 q1 q2 => tail G2 H1 locs1 hJ2 hb2 q1 q2)
    · refine lv_tableIn (off := 728) (tgt := 760) hx hb dL_law_32 (by decide) (by decide) (by decide) rfl ?_
      have hkk : k < 64 := by omega
      obtain ⟨r, G1, G2, h1, h2, hJ2, hb2⟩ := (hJ.2.2.2.2.2.2.2.2.2.2.2.2.2.2.2.2.2.2.2.2.2.2.2.2.1) k G hkk hG
      have hr := hroom G2 hJ2 hb2
      exact kl_case_restore C0 hK hs0 hLs hi1 hi2 hi3 hP hS h1 h2 hr.1 hr.2 (fun H1 locs1 q1 q2 => tail G2 H1 locs1 hJ2 hb2 q1 q2)
    · refine lv_tableIn (off := 741) (tgt := 773) hx hb dL_law_32 (by decide) (by decide) (by decide) rfl ?_
      have hkk : k < 64 := by omega
      obtain ⟨r, G1, G2, h1, h2, hJ2, hb2⟩ := (hJ.2.2.2.2.2.2.2.2.2.2.2.2.2.2.2.2.2.2.2.2.2.2.2.2.2.1 (xs (nI (4 * k) + 1).toNatClampNeg)) k G hkk hG
      have hr := hroom G2 hJ2 hb2
      exact kl_case_count C0 hK hs0 hLs hi1 hi2 hi3 hP hS h1 h2 hr.1 hr.2 (fun H1 locs1 q1 q2 => tail G2 H1 locs1 hJ2 hb2 q1 q2)
    · refine lv_tableIn (off := 764) (tgt := 796) hx hb dL_law_32 (by decide) (by decide) (by decide) rfl ?_
      have hkk : k < 64 := by omega
      obtain ⟨r, G1, G2, h1, h2, hJ2, hb2⟩ := (hJ.2.2.2.2.2.2.2.2.2.2.2.2.2.2.2.2.2.2.2.2.2.2.2.2.2.2) k G hkk hG
      have hr := hroom G2 hJ2 hb2
      exact kl_case_digest C0 hK hs0 hLs hi1 hi2 hi3 hP hS h1 h2 hr.1 hr.2 (fun H1 locs1 q1 q2 => tail G2 H1 locs1 hJ2 hb2 q1 q2)
    · refine lv_tableOut (tgt := 810) hx hb dL_law_32 (by decide) rfl ?_
      exact tail G H locs (hJm k G hG) ⟨by omega, by omega⟩ hP hS
    · refine lv_tableOut (tgt := 810) hx hb dL_law_32 (by decide) rfl ?_
      exact tail G H locs (hJm k G hG) ⟨by omega, by omega⟩ hP hS
    · refine lv_tableOut (tgt := 810) hx hb dL_law_32 (by decide) rfl ?_
      exact tail G H locs (hJm k G hG) ⟨by omega, by omega⟩ hP hS
    · refine lv_tableOut (tgt := 810) hx hb dL_law_32 (by decide) rfl ?_
      exact tail G H locs (hJm k G hG) ⟨by omega, by omega⟩ hP hS
    · refine lv_tableOut (tgt := 810) hx hb dL_law_32 (by decide) rfl ?_
      exact tail G H locs (hJm k G hG) ⟨by omega, by omega⟩ hP hS
theorem kl_place {p : Program} {e : Env} {s : State} {m : MethodId} {args : Array Value} {below : List Frame} {meth : Method} {c : Code} {Z : kv_Z} {h : kv_H} {H1 : Heap} {locs : List Loc} {slots q : Nat} {Q : State → Prop} {g : Nat → JFrame} {x : va_E} (hs : s.heap.size = kv_b Z) (hP : va_P (kv_D Z) vwCl (kv_w Z h ++ [(q, x)]) H1) (hD : va_D (kv_A Z) (kv_w Z h ++ [(q, x)])) (k : q = kv_b Z + h.length → W p Z.1 e room_1 s m args below meth c H1 locs (h.length + 1) slots Q (g q)) : W p Z.1 e room_1 s m args below meth c H1 locs (h.length + 1) slots Q (g q) := by
  have := kv_place (Z := Z) (h := h) (p := p) (e := e) (R := room_1) (s := s) (m := m) (args := args) (below := below) (meth := meth) (c := c) (H1 := H1) (locs := locs) (n0 := 0) (slots := slots) (q := q) (Q := Q) (g := g) (x := x) (Nat.zero_le _) (by rw [hs]; rfl) hP hD
  rw [Nat.sub_zero] at this
  exact this k
set_option maxRecDepth 20000 in
set_option maxHeartbeats 8000000 in
theorem whole_start_of {p : Program} {e : Env} {s : State} {m : MethodId} {below : List Frame} {meth : Method} {c : Code} (l : Launch) {b Ln : Nat} {xs : Nat → Int32} (hLn : Ln ≤ 256) (C0 : lw_At p s m meth c b Ln xs) {J : Nat → kg_G → Prop} (hJ : kj_all J) (h0 : J 0 kg_0) (hJm : ∀ k G, J k G → J (k + 1) G) (hJs : ∀ k G, J k G → kv_sl (kg_w G) ≤ 3000 + kv_sl (kg_Y G)) : W p l e room_1 s m #[Value.ref b] below meth c s.heap [] 0 0 (lw_Z below #[Value.ref b] s) (entryFrame m ([Value.ref b] : List Value).toArray 4) := by
  obtain ⟨D, cI, cT, aS, aV, hK⟩ := kj_K l C0
  obtain ⟨hx, hb, hr, hml, hown, hts, hX, hbl, hlocks, hgv⟩ := id C0
  generalize hZ : ((l, D, cI, cT, s.heap.size, aS, aV) : kv_Z) = Z at hK
  have hs0 : s.heap.size = kv_b Z := by rw [← hZ]
  have hl0 : l = Z.1 := by rw [← hZ]
  rw [hl0]
  have hA : ∀ q : Nat, s.heap.size ≤ q → kv_A Z q := fun q h => by show kv_b Z ≤ q; rw [← hs0]; exact h
  have hS : va_S (kv_A Z) s.heap s.heap [] := va_S.rf
  have hP : va_P (kv_D Z) vwCl (kv_w Z []) s.heap := fun k q h => by simp [kv_w, kv_wf] at h
  have hl := lv_entry ([.ref b]) (n := 4) (Nat.le_of_ble_eq_true rfl)
  rw [lg_entry_eq]
  generalize (lg_sl ([.ref b]) ++ List.replicate (4 - (lg_sl ([.ref b])).length) Slot.unset).toArray = ls at hl ⊢
  have hl : lv_has ls 4 [(0, .ref b)] := hl
  refine va_new (ci := 10) (fs := [.null, .null, .null, .null, .null, .null, .int 0, .int 0, .int 0, .int 0, .int 0]) (C := RX10) (T := TX10) (N := 11) hx hb hts (fun w hw => (kv_W_good (kin10 w hw)).1) tyX10 tyX10_ok hown (hts _ (kv_W_good kw1_22).1) (hts _ (kv_W_good kw1_23).1) (hts _ (kv_W_good kw1_1).1) hK.1 hP (kv_w_D Z []) hS hA rfl (fun j hj => by rcases (show j = 0 ∨ j = 1 ∨ j = 2 ∨ j = 3 ∨ j = 4 ∨ j = 5 ∨ j = 6 ∨ j = 7 ∨ j = 8 ∨ j = 9 ∨ j = 10 by omega) with rfl | rfl | rfl | rfl | rfl | rfl | rfl | rfl | rfl | rfl | rfl <;> rfl) (Nat.le_of_ble_eq_true rfl) (Nat.le_of_ble_eq_true rfl) dL_law_0 (fun q H hP hD hS => ?_)
  refine kl_place (h := []) (g := fun q => F0 m (0 + 3) ls [.ref q]) hs0 hP hD (fun eq => ?_)
  subst eq
  have hP : va_P (kv_D Z) vwCl (kv_w Z [.inr (.inr (10, [.null, .null, .null, .null, .null, .null, .int 0, .int 0, .int 0, .int 0, .int 0]))]) H := hP
  refine lv_dup hx hb dL_law_3 rfl ?_
  refine kl_callI (M' := kMX10_init) (a := 0) (h := [.inr (.inr (10, [.null, .null, .null, .null, .null, .null, .int 0, .int 0, .int 0, .int 0, .int 0]))]) C0 hK hs0 hl.1 (RX10_init 0) koX10_init rfl rfl kw1_24 kw1_25 (Nat.le_of_ble_eq_true rfl) dL_law_4 (Nat.le_of_ble_eq_true rfl) (Nat.le_of_ble_eq_true rfl) (Nat.le_of_ble_eq_true rfl) hP hS (fun H locs hP hS => ?_)
  refine lv_astore_n (lv' := [(1, .ref (kv_b Z + 0)), (0, .ref b)]) hx hb dL_law_7 rfl hl (by decide) rfl (fun ls hl => ?_)
  refine va_new (ci := 11) (fs := [.null, .int 0, .int 0, .int 0, .int 0, .int 0, .int 0, .int 0, .int 0, .int 0, .int 0, .int 0, .null, .null, .null, .int 0, .null, .null, .null, .null, .null, .int 0, .int 0, .int 0, .null, .int 0, .null, .null, .null, .int 0, .int 0, .int 0, .int 0, .int 0, .int 0, .int 0, .int 0, .int 0, .null, .null, .null, .long 0]) (C := RX11) (T := TX11) (N := 42) hx hb hts (fun w hw => (kv_W_good (kin11 w hw)).1) tyX11 tyX11_ok hown (hts _ (kv_W_good kw4_131).1) (hts _ (kv_W_good kw4_132).1) (hts _ (kv_W_good kw1_7).1) hK.1 hP (kv_w_D Z kg_x) hS hA rfl (fun j hj => by rcases (show j = 0 ∨ j = 1 ∨ j = 2 ∨ j = 3 ∨ j = 4 ∨ j = 5 ∨ j = 6 ∨ j = 7 ∨ j = 8 ∨ j = 9 ∨ j = 10 ∨ j = 11 ∨ j = 12 ∨ j = 13 ∨ j = 14 ∨ j = 15 ∨ j = 16 ∨ j = 17 ∨ j = 18 ∨ j = 19 ∨ j = 20 ∨ j = 21 ∨ j = 22 ∨ j = 23 ∨ j = 24 ∨ j = 25 ∨ j = 26 ∨ j = 27 ∨ j = 28 ∨ j = 29 ∨ j = 30 ∨ j = 31 ∨ j = 32 ∨ j = 33 ∨ j = 34 ∨ j = 35 ∨ j = 36 ∨ j = 37 ∨ j = 38 ∨ j = 39 ∨ j = 40 ∨ j = 41 by omega) with rfl | rfl | rfl | rfl | rfl | rfl | rfl | rfl | rfl | rfl | rfl | rfl | rfl | rfl | rfl | rfl | rfl | rfl | rfl | rfl | rfl | rfl | rfl | rfl | rfl | rfl | rfl | rfl | rfl | rfl | rfl | rfl | rfl | rfl | rfl | rfl | rfl | rfl | rfl | rfl | rfl | rfl <;> rfl) (Nat.le_of_ble_eq_true rfl) (Nat.le_of_ble_eq_true rfl) dL_law_8 (fun q H hP hD hS => ?_)
  refine kl_place (h := kg_x) (g := fun q => F0 m (8 + 3) ls [.ref q]) hs0 hP hD (fun eq => ?_)
  subst eq
  have hP : va_P (kv_D Z) vwCl (kv_w Z (kg_x ++ [.inr (.inr (11, [.null, .int 0, .int 0, .int 0, .int 0, .int 0, .int 0, .int 0, .int 0, .int 0, .int 0, .int 0, .null, .null, .null, .int 0, .null, .null, .null, .null, .null, .int 0, .int 0, .int 0, .null, .int 0, .null, .null, .null, .int 0, .int 0, .int 0, .int 0, .int 0, .int 0, .int 0, .int 0, .int 0, .null, .null, .null, .long 0]))])) H := by rw [kv_w_app]; exact hP
  refine lv_dup hx hb dL_law_11 rfl ?_
  have hm := RX11_init (Z := Z) 0 (h := kg_x)
  have e9 := kg_all
  rw [show kg_x.length = 28 from rfl] at hm
  rw [e9] at hm
  refine kl_callI (M' := kMX11_init) (a := 28) (rest := [.ref (kv_b Z + 28)]) (h := kg_x ++ [.inr (.inr (11, [.null, .int 0, .int 0, .int 0, .int 0, .int 0, .int 0, .int 0, .int 0, .int 0, .int 0, .int 0, .null, .null, .null, .int 0, .null, .null, .null, .null, .null, .int 0, .int 0, .int 0, .null, .int 0, .null, .null, .null, .int 0, .int 0, .int 0, .int 0, .int 0, .int 0, .int 0, .int 0, .int 0, .null, .null, .null, .long 0]))]) C0 hK hs0 hl.1 hm koX11_init rfl rfl kw4_133 kw4_134 (Nat.le_of_ble_eq_true rfl) dL_law_12 (Nat.le_of_ble_eq_true rfl) (Nat.le_of_ble_eq_true rfl) (Nat.le_of_ble_eq_true rfl) hP hS (fun H locs hP hS => ?_)
  refine lv_astore_n (lv' := [(2, .ref (kv_b Z + 28)), (1, .ref (kv_b Z + 0)), (0, .ref b)]) hx hb dL_law_15 rfl hl (by decide) rfl (fun ls hl => ?_)
  refine lv_iconst (v := 0) hx hb dL_law_16 (by decide) ?_
  refine lv_istore_n (lv' := [(3, .int 0), (2, .ref (kv_b Z + 28)), (1, .ref (kv_b Z + 0)), (0, .ref b)]) hx hb dL_law_17 rfl hl (by decide) rfl (fun ls hl => ?_)
  exact kl_loop hLn C0 hK hs0 hJ hJm hJs 65 0 (by omega) kg_0 H locs ls h0 (Nat.le_refl 0) (Nat.le_refl 0) (by omega) hP hS (lv_sub hl [3, 2, 1, 0] rfl)
