/-! the machine does what the functions say: the reference, first half -/
abbrev kMX11_in : kv_Me := (yX11_in, cX11_in, 6, some .boolean)
theorem koX11_in : kv_ok kMX11_in 3 := ⟨⟨by decide, by decide, by decide +kernel⟩, kw5_31, kw1_7, by decide⟩
abbrev kMX11_copy : kv_Me := (yX11_copy, cX11_copy, 3, none)
theorem koX11_copy : kv_ok kMX11_copy 2 := ⟨⟨by decide, by decide, by decide +kernel⟩, kw5_214, kw1_7, by decide⟩
abbrev kMX11_ones : kv_Me := (yX11_ones, cX11_ones, 3, some .int)
theorem koX11_ones : kv_ok kMX11_ones 1 := ⟨⟨by decide, by decide, by decide +kernel⟩, kw5_91, kw1_7, by decide⟩
abbrev kMX11_letter : kv_Me := (yX11_letter, cX11_letter, 2, some .int)
theorem koX11_letter : kv_ok kMX11_letter 1 := ⟨⟨by decide, by decide, by decide +kernel⟩, kw5_27, kw1_7, by decide⟩
abbrev kMX11_blank : kv_Me := (yX11_blank, cX11_blank, 2, some .int)
theorem koX11_blank : kv_ok kMX11_blank 0 := ⟨⟨by decide, by decide, by decide +kernel⟩, kw5_35, kw1_7, by decide⟩
abbrev kMX11_kindBy : kv_Me := (yX11_kindBy, cX11_kindBy, 1, some .int)
theorem koX11_kindBy : kv_ok kMX11_kindBy 1 := ⟨⟨by decide, by decide, by decide +kernel⟩, kw5_57, kw1_7, by decide⟩
abbrev kMX11_isTrickLetter : kv_Me := (yX11_isTrickLetter, cX11_isTrickLetter, 3, some .boolean)
theorem koX11_isTrickLetter : kv_ok kMX11_isTrickLetter 1 := ⟨⟨by decide, by decide, by decide +kernel⟩, kw5_54, kw1_7, by decide⟩
abbrev kMX11_isGood : kv_Me := (yX11_isGood, cX11_isGood, 3, some .boolean)
theorem koX11_isGood : kv_ok kMX11_isGood 1 := ⟨⟨by decide, by decide, by decide +kernel⟩, kw5_47, kw1_7, by decide⟩
abbrev kMX11_faultOf : kv_Me := (yX11_faultOf, cX11_faultOf, 2, some .int)
theorem koX11_faultOf : kv_ok kMX11_faultOf 0 := ⟨⟨by decide, by decide, by decide +kernel⟩, kw5_43, kw1_7, by decide⟩
abbrev kMX11_fault : kv_Me := (yX11_fault, cX11_fault, 1, some .int)
theorem koX11_fault : kv_ok kMX11_fault 0 := ⟨⟨by decide, by decide, by decide +kernel⟩, kw5_39, kw1_7, by decide⟩
abbrev kMX11_show : kv_Me := (yX11_show, cX11_show, 2, some .int)
theorem koX11_show : kv_ok kMX11_show 0 := ⟨⟨by decide, by decide, by decide +kernel⟩, kw5_64, kw1_7, by decide⟩
abbrev kMX11_lacks : kv_Me := (yX11_lacks, cX11_lacks, 1, some .boolean)
theorem koX11_lacks : kv_ok kMX11_lacks 0 := ⟨⟨by decide, by decide, by decide +kernel⟩, kw5_172, kw1_7, by decide⟩
abbrev kMX11_isTrick : kv_Me := (yX11_isTrick, cX11_isTrick, 2, some .boolean)
theorem koX11_isTrick : kv_ok kMX11_isTrick 1 := ⟨⟨by decide, by decide, by decide +kernel⟩, kw5_72, kw1_7, by decide⟩
abbrev kMX11_isPerson : kv_Me := (yX11_isPerson, cX11_isPerson, 2, some .boolean)
theorem koX11_isPerson : kv_ok kMX11_isPerson 1 := ⟨⟨by decide, by decide, by decide +kernel⟩, kw5_132, kw1_7, by decide⟩
abbrev kMX11_isKept : kv_Me := (yX11_isKept, cX11_isKept, 2, some .boolean)
theorem koX11_isKept : kv_ok kMX11_isKept 1 := ⟨⟨by decide, by decide, by decide +kernel⟩, kw5_99, kw1_7, by decide⟩
abbrev kMX11_keptSet : kv_Me := (yX11_keptSet, cX11_keptSet, 3, some .int)
theorem koX11_keptSet : kv_ok kMX11_keptSet 0 := ⟨⟨by decide, by decide, by decide +kernel⟩, kw5_188, kw1_7, by decide⟩
abbrev kMX11_wantsOf : kv_Me := (yX11_wantsOf, cX11_wantsOf, 2, some .int)
theorem koX11_wantsOf : kv_ok kMX11_wantsOf 1 := ⟨⟨by decide, by decide, by decide +kernel⟩, kw5_80, kw1_7, by decide⟩
abbrev kMX11_fitsBy : kv_Me := (yX11_fitsBy, cX11_fitsBy, 5, some .boolean)
theorem koX11_fitsBy : kv_ok kMX11_fitsBy 2 := ⟨⟨by decide, by decide, by decide +kernel⟩, kw5_103, kw1_7, by decide⟩
abbrev kMX11_fittingSet : kv_Me := (yX11_fittingSet, cX11_fittingSet, 4, some .int)
theorem koX11_fittingSet : kv_ok kMX11_fittingSet 1 := ⟨⟨by decide, by decide, by decide +kernel⟩, kw5_95, kw1_7, by decide⟩
abbrev kMX11_strongAll : kv_Me := (yX11_strongAll, cX11_strongAll, 4, some .int)
theorem koX11_strongAll : kv_ok kMX11_strongAll 1 := ⟨⟨by decide, by decide, by decide +kernel⟩, kw5_88, kw1_7, by decide⟩
abbrev kMX11_isDoneBy : kv_Me := (yX11_isDoneBy, cX11_isDoneBy, 4, some .boolean)
theorem koX11_isDoneBy : kv_ok kMX11_isDoneBy 2 := ⟨⟨by decide, by decide, by decide +kernel⟩, kw5_84, kw1_7, by decide⟩
abbrev kMX11_hoursOf : kv_Me := (yX11_hoursOf, cX11_hoursOf, 2, some .int)
theorem koX11_hoursOf : kv_ok kMX11_hoursOf 1 := ⟨⟨by decide, by decide, by decide +kernel⟩, kw5_119, kw1_7, by decide⟩
abbrev kMX11_busyBy : kv_Me := (yX11_busyBy, cX11_busyBy, 3, some .int)
theorem koX11_busyBy : kv_ok kMX11_busyBy 1 := ⟨⟨by decide, by decide, by decide +kernel⟩, kw5_115, kw1_7, by decide⟩
abbrev kMX11_clash : kv_Me := (yX11_clash, cX11_clash, 3, some .boolean)
theorem koX11_clash : kv_ok kMX11_clash 2 := ⟨⟨by decide, by decide, by decide +kernel⟩, kw5_111, kw1_7, by decide⟩
abbrev kMX11_clashSet : kv_Me := (yX11_clashSet, cX11_clashSet, 4, some .int)
theorem koX11_clashSet : kv_ok kMX11_clashSet 1 := ⟨⟨by decide, by decide, by decide +kernel⟩, kw5_107, kw1_7, by decide⟩
abbrev kMX11_tellTrick : kv_Me := (yX11_tellTrick, cX11_tellTrick, 3, some .int)
theorem koX11_tellTrick : kv_ok kMX11_tellTrick 2 := ⟨⟨by decide, by decide, by decide +kernel⟩, kw5_76, kw1_7, by decide⟩
abbrev kMX11_trick : kv_Me := (yX11_trick, cX11_trick, 3, some .int)
theorem koX11_trick : kv_ok kMX11_trick 2 := ⟨⟨by decide, by decide, by decide +kernel⟩, kw5_68, kw1_7, by decide⟩
abbrev kMX11_as : kv_Me := (yX11_as, cX11_as, 5, some .int)
theorem koX11_as : kv_ok kMX11_as 2 := ⟨⟨by decide, by decide, by decide +kernel⟩, kw5_123, kw1_7, by decide⟩
abbrev kMX11_castSet : kv_Me := (yX11_castSet, cX11_castSet, 4, some .int)
theorem koX11_castSet : kv_ok kMX11_castSet 1 := ⟨⟨by decide, by decide, by decide +kernel⟩, kw5_140, kw1_7, by decide⟩
abbrev kMX11_busySet : kv_Me := (yX11_busySet, cX11_busySet, 4, some .int)
theorem koX11_busySet : kv_ok kMX11_busySet 1 := ⟨⟨by decide, by decide, by decide +kernel⟩, kw5_144, kw1_7, by decide⟩
abbrev kMX11_strongsOf : kv_Me := (yX11_strongsOf, cX11_strongsOf, 7, some .int)
theorem koX11_strongsOf : kv_ok kMX11_strongsOf 1 := ⟨⟨by decide, by decide, by decide +kernel⟩, kw5_148, kw1_7, by decide⟩
abbrev kMX11_tryOf : kv_Me := (yX11_tryOf, cX11_tryOf, 9, some .int)
theorem koX11_tryOf : kv_ok kMX11_tryOf 1 := ⟨⟨by decide, by decide, by decide +kernel⟩, kw5_152, kw1_7, by decide⟩
abbrev kMX11_tellPerson : kv_Me := (yX11_tellPerson, cX11_tellPerson, 3, some .int)
theorem koX11_tellPerson : kv_ok kMX11_tellPerson 2 := ⟨⟨by decide, by decide, by decide +kernel⟩, kw5_136, kw1_7, by decide⟩
abbrev kMX11_person : kv_Me := (yX11_person, cX11_person, 3, some .int)
theorem koX11_person : kv_ok kMX11_person 2 := ⟨⟨by decide, by decide, by decide +kernel⟩, kw5_128, kw1_7, by decide⟩
abbrev kMX11_cast : kv_Me := (yX11_cast, cX11_cast, 4, some .int)
theorem koX11_cast : kv_ok kMX11_cast 2 := ⟨⟨by decide, by decide, by decide +kernel⟩, kw5_156, kw1_7, by decide⟩
abbrev kMX11_drop : kv_Me := (yX11_drop, cX11_drop, 3, some .int)
theorem koX11_drop : kv_ok kMX11_drop 2 := ⟨⟨by decide, by decide, by decide +kernel⟩, kw5_160, kw1_7, by decide⟩
abbrev kMX11_clear : kv_Me := (yX11_clear, cX11_clear, 3, some .int)
theorem koX11_clear : kv_ok kMX11_clear 0 := ⟨⟨by decide, by decide, by decide +kernel⟩, kw5_164, kw1_7, by decide⟩
abbrev kMX11_doneNow : kv_Me := (yX11_doneNow, cX11_doneNow, 3, some .int)
theorem koX11_doneNow : kv_ok kMX11_doneNow 0 := ⟨⟨by decide, by decide, by decide +kernel⟩, kw5_176, kw1_7, by decide⟩
abbrev kMX11_night : kv_Me := (yX11_night, cX11_night, 3, some .int)
theorem koX11_night : kv_ok kMX11_night 0 := ⟨⟨by decide, by decide, by decide +kernel⟩, kw5_168, kw1_7, by decide⟩
abbrev kMX11_move : kv_Me := (yX11_move, cX11_move, 2, some .int)
theorem koX11_move : kv_ok kMX11_move 1 := ⟨⟨by decide, by decide, by decide +kernel⟩, kw5_180, kw1_7, by decide⟩
abbrev kMX11_letGo : kv_Me := (yX11_letGo, cX11_letGo, 3, some .int)
theorem koX11_letGo : kv_ok kMX11_letGo 1 := ⟨⟨by decide, by decide, by decide +kernel⟩, kw5_184, kw1_7, by decide⟩
abbrev kMX11_call : kv_Me := (yX11_call, cX11_call, 3, some .int)
theorem koX11_call : kv_ok kMX11_call 2 := ⟨⟨by decide, by decide, by decide +kernel⟩, kw5_192, kw1_7, by decide⟩
abbrev kMX11_layChoices : kv_Me := (yX11_layChoices, cX11_layChoices, 4, none)
theorem koX11_layChoices : kv_ok kMX11_layChoices 1 := ⟨⟨by decide, by decide, by decide +kernel⟩, kw5_211, kw1_7, by decide⟩
abbrev kMX11_isFree : kv_Me := (yX11_isFree, cX11_isFree, 5, some .boolean)
theorem koX11_isFree : kv_ok kMX11_isFree 2 := ⟨⟨by decide, by decide, by decide +kernel⟩, kw5_218, kw1_7, by decide⟩
abbrev kMX11_layMost : kv_Me := (yX11_layMost, cX11_layMost, 6, some .int)
theorem koX11_layMost : kv_ok kMX11_layMost 1 := ⟨⟨by decide, by decide, by decide +kernel⟩, kw5_207, kw1_7, by decide⟩
abbrev kMX11_mostOf : kv_Me := (yX11_mostOf, cX11_mostOf, 3, some .int)
theorem koX11_mostOf : kv_ok kMX11_mostOf 1 := ⟨⟨by decide, by decide, by decide +kernel⟩, kw5_203, kw1_7, by decide⟩
abbrev kMX11_most : kv_Me := (yX11_most, cX11_most, 2, some .int)
theorem koX11_most : kv_ok kMX11_most 1 := ⟨⟨by decide, by decide, by decide +kernel⟩, kw5_197, kw1_7, by decide⟩
abbrev kMX11_fill : kv_Me := (yX11_fill, cX11_fill, 2, some .int)
theorem koX11_fill : kv_ok kMX11_fill 0 := ⟨⟨by decide, by decide, by decide +kernel⟩, kw5_222, kw1_7, by decide⟩
abbrev kMX11_fewestOf : kv_Me := (yX11_fewestOf, cX11_fewestOf, 6, some .int)
theorem koX11_fewestOf : kv_ok kMX11_fewestOf 1 := ⟨⟨by decide, by decide, by decide +kernel⟩, kw5_230, kw1_7, by decide⟩
abbrev kMX11_fewest : kv_Me := (yX11_fewest, cX11_fewest, 2, some .int)
theorem koX11_fewest : kv_ok kMX11_fewest 1 := ⟨⟨by decide, by decide, by decide +kernel⟩, kw5_226, kw1_7, by decide⟩
abbrev kMX11_spareOf : kv_Me := (yX11_spareOf, cX11_spareOf, 6, some .int)
theorem koX11_spareOf : kv_ok kMX11_spareOf 0 := ⟨⟨by decide, by decide, by decide +kernel⟩, kw5_238, kw1_7, by decide⟩
abbrev kMX11_spare : kv_Me := (yX11_spare, cX11_spare, 1, some .int)
theorem koX11_spare : kv_ok kMX11_spare 0 := ⟨⟨by decide, by decide, by decide +kernel⟩, kw5_234, kw1_7, by decide⟩
abbrev kMX11_wantsAt : kv_Me := (yX11_wantsAt, cX11_wantsAt, 4, some .int)
theorem koX11_wantsAt : kv_ok kMX11_wantsAt 1 := ⟨⟨by decide, by decide, by decide +kernel⟩, kw6_7, kw1_7, by decide⟩
abbrev kMX11_wants : kv_Me := (yX11_wants, cX11_wants, 2, some .int)
theorem koX11_wants : kv_ok kMX11_wants 1 := ⟨⟨by decide, by decide, by decide +kernel⟩, kw6_2, kw1_7, by decide⟩
abbrev kMX11_bound : kv_Me := (yX11_bound, cX11_bound, 4, some .int)
theorem koX11_bound : kv_ok kMX11_bound 0 := ⟨⟨by decide, by decide, by decide +kernel⟩, kw6_68, kw1_7, by decide⟩
abbrev kMX11_isThrough : kv_Me := (yX11_isThrough, cX11_isThrough, 5, some .boolean)
theorem koX11_isThrough : kv_ok kMX11_isThrough 3 := ⟨⟨by decide, by decide, by decide +kernel⟩, kw6_18, kw1_7, by decide⟩
abbrev kMX11_routeOf : kv_Me := (yX11_routeOf, cX11_routeOf, 11, some .int)
theorem koX11_routeOf : kv_ok kMX11_routeOf 2 := ⟨⟨by decide, by decide, by decide +kernel⟩, kw6_15, kw1_7, by decide⟩
abbrev kMX11_route : kv_Me := (yX11_route, cX11_route, 3, some .int)
theorem koX11_route : kv_ok kMX11_route 2 := ⟨⟨by decide, by decide, by decide +kernel⟩, kw6_11, kw1_7, by decide⟩
abbrev kMX11_see : kv_Me := (yX11_see, cX11_see, 4, some .int)
theorem koX11_see : kv_ok kMX11_see 3 := ⟨⟨by decide, by decide, by decide +kernel⟩, kw6_22, kw1_7, by decide⟩
abbrev kMX11_forget : kv_Me := (yX11_forget, cX11_forget, 2, some .int)
theorem koX11_forget : kv_ok kMX11_forget 0 := ⟨⟨by decide, by decide, by decide +kernel⟩, kw6_26, kw1_7, by decide⟩
abbrev kMX11_draw : kv_Me := (yX11_draw, cX11_draw, 2, some .int)
theorem koX11_draw : kv_ok kMX11_draw 1 := ⟨⟨by decide, by decide, by decide +kernel⟩, kw6_36, kw1_7, by decide⟩
abbrev kMX11_takesLine : kv_Me := (yX11_takesLine, cX11_takesLine, 6, some .boolean)
theorem koX11_takesLine : kv_ok kMX11_takesLine 1 := ⟨⟨by decide, by decide, by decide +kernel⟩, kw6_44, kw1_7, by decide⟩
abbrev kMX11_letLineGo : kv_Me := (yX11_letLineGo, cX11_letLineGo, 3, some .int)
theorem koX11_letLineGo : kv_ok kMX11_letLineGo 0 := ⟨⟨by decide, by decide, by decide +kernel⟩, kw6_48, kw1_7, by decide⟩
abbrev kMX11_tours : kv_Me := (yX11_tours, cX11_tours, 9, some .int)
theorem koX11_tours : kv_ok kMX11_tours 3 := ⟨⟨by decide, by decide, by decide +kernel⟩, kw6_30, kw1_7, by decide⟩
abbrev kMX11_image : kv_Me := (yX11_image, cX11_image, 1, some .int)
theorem koX11_image : kv_ok kMX11_image 0 := ⟨⟨by decide, by decide, by decide +kernel⟩, kw6_52, kw1_7, by decide⟩
abbrev kMX11_restore : kv_Me := (yX11_restore, cX11_restore, 1, some .int)
theorem koX11_restore : kv_ok kMX11_restore 0 := ⟨⟨by decide, by decide, by decide +kernel⟩, kw6_56, kw1_7, by decide⟩
abbrev kMX11_countMore : kv_Me := (yX11_countMore, cX11_countMore, 2, some .int)
theorem koX11_countMore : kv_ok kMX11_countMore 1 := ⟨⟨by decide, by decide, by decide +kernel⟩, kw6_72, kw1_7, by decide⟩
abbrev kMX11_countOf : kv_Me := (yX11_countOf, cX11_countOf, 2, some .int)
theorem koX11_countOf : kv_ok kMX11_countOf 1 := ⟨⟨by decide, by decide, by decide +kernel⟩, kw6_64, kw1_7, by decide⟩
abbrev kMX11_count : kv_Me := (yX11_count, cX11_count, 2, some .int)
theorem koX11_count : kv_ok kMX11_count 1 := ⟨⟨by decide, by decide, by decide +kernel⟩, kw6_60, kw1_7, by decide⟩
abbrev kMX11_say : kv_Me := (yX11_say, cX11_say, 3, none)
theorem koX11_say : kv_ok kMX11_say 1 := ⟨⟨by decide, by decide, by decide +kernel⟩, kw6_81, kw1_7, by decide⟩
abbrev kMX11_digest : kv_Me := (yX11_digest, cX11_digest, 3, some .long)
theorem koX11_digest : kv_ok kMX11_digest 0 := ⟨⟨by decide, by decide, by decide +kernel⟩, kw6_76, kw1_7, by decide⟩
set_option maxRecDepth 20000 in
set_option maxHeartbeats 4000000 in
theorem RX11_in {Z : kv_Z} (e : Nat) {G : kg_G} {l0 : Int64} {l2 : Int64} {l4 : Int64} {res : Int32} (h : fX11_in l0 l2 l4 = res) : kv_M Z (e + 0) kMX11_in [.long l0, .long l2, .long l4] (kg_w G) (some (.int res)) (kg_w G) := by
  refine kv_M_of (ls := [some (.long l0), none, some (.long l2), none, some (.long l4), none]) (by decide) (Nat.le_of_ble_eq_true rfl) rfl ?_
  unfold fX11_in at h
  refine kr_lload_n dX11_in_0 rfl ?_
  refine kr_lload_n dX11_in_1 rfl ?_
  refine kr_lcmp dX11_in_2 ?_
  refine kr_if_lt (tgt := 17) dX11_in_3 rfl (fun c3 => ?_) (fun c3 => ?_)
  · rw [if_pos c3] at h
    refine kr_iconst (v := 0) dX11_in_17 (by decide) ?_
    cases h
    exact kr_zret rfl (by decide) dX11_in_18
  · rw [if_neg c3] at h
    refine kr_lload_n dX11_in_6 rfl ?_
    refine kr_lload dX11_in_7 rfl ?_
    refine kr_lcmp dX11_in_9 ?_
    refine kr_if_gt (tgt := 17) dX11_in_10 rfl (fun c10 => ?_) (fun c10 => ?_)
    · rw [if_pos c10] at h
      refine kr_iconst (v := 0) dX11_in_17 (by decide) ?_
      cases h
      exact kr_zret rfl (by decide) dX11_in_18
    · rw [if_neg c10] at h
      refine kr_iconst (v := 1) dX11_in_13 (by decide) ?_
      refine kr_goto (tgt := 18) dX11_in_14 rfl ?_
      cases h
      exact kr_zret rfl (by decide) dX11_in_18
set_option maxRecDepth 20000 in
set_option maxHeartbeats 4000000 in
theorem RX11_copy_2 {Z : kv_Z} (e : Nat) {N : Nat} : ∀ (n : Nat) (G : kg_G) (a0 : Nat) (a1 : Nat) (l2 : Int32) (res : kg_G), fX11_copy_2 N n G a0 a1 l2 = some res → kv_V Z (e + 0) kMX11_copy 2 [some (.ref a0), some (.ref a1), some (.int l2)] [] (kg_w G) none (kg_w res) := by
  intro n
  induction n with
  | zero => intro G a0 a1 l2 res h; exact absurd h (by intro z; cases z)
  | succ n ih =>
    intro G a0 a1 l2 res h
    have hk2 := ih
    rw [fX11_copy_2] at h
    refine kr_iload_n dX11_copy_2 rfl ?_
    refine kr_aload_n dX11_copy_3 rfl ?_
    obtain ⟨v1, hv1, h⟩ := Option.bind_eq_some_iff.mp h
    refine kx_le hv1 dX11_copy_4 ?_
    refine kr_icmp_ge (tgt := 20) dX11_copy_5 rfl (fun c5 => ?_) (fun c5 => ?_)
    · rw [if_pos c5] at h
      cases h
      exact kr_vret rfl dX11_copy_20
    · rw [if_neg c5] at h
      refine kr_aload_n dX11_copy_8 rfl ?_
      refine kr_iload_n dX11_copy_9 rfl ?_
      refine kr_aload_n dX11_copy_10 rfl ?_
      refine kr_iload_n dX11_copy_11 rfl ?_
      obtain ⟨v2, hv2, h⟩ := Option.bind_eq_some_iff.mp h
      refine kx_ld hv2 dX11_copy_12 ?_
      obtain ⟨v3, hv3, h⟩ := Option.bind_eq_some_iff.mp h
      refine kx_sd hv3 dX11_copy_13 ?_
      refine kr_iinc (v := l2 + 1) (ls' := [some (.ref a0), some (.ref a1), some (.int (l2 + 1))]) dX11_copy_14 rfl rfl (Nat.le_of_ble_eq_true rfl) rfl ?_
      refine kr_goto (tgt := 2) dX11_copy_17 rfl ?_
      exact hk2 _ _ _ _ _ h
set_option maxRecDepth 20000 in
set_option maxHeartbeats 4000000 in
theorem RX11_copy {Z : kv_Z} (e : Nat) {N : Nat} {G : kg_G} {a0 : Nat} {a1 : Nat} {res : kg_G} (h : fX11_copy N G a0 a1 = some res) : kv_M Z (e + 0) kMX11_copy [.ref a0, .ref a1] (kg_w G) none (kg_w res) := by
  refine kv_M_of (ls := [some (.ref a0), some (.ref a1), none]) (by decide) (Nat.le_of_ble_eq_true rfl) rfl ?_
  unfold fX11_copy at h
  refine kr_iconst (v := 0) dX11_copy_0 (by decide) ?_
  refine kr_istore_n (i := 2) (ls' := [some (.ref a0), some (.ref a1), some (.int 0)]) dX11_copy_1 rfl (Nat.le_of_ble_eq_true rfl) rfl ?_
  exact RX11_copy_2 e N _ _ _ _ _ h
set_option maxRecDepth 20000 in
set_option maxHeartbeats 4000000 in
theorem RX11_ones_4 {Z : kv_Z} (e : Nat) {N : Nat} {G : kg_G} : ∀ (n : Nat) (l0 : Int32) (l1 : Int32) (l2 : Int32) (res : Int32), fX11_ones_4 N n l0 l1 l2 = some res → kv_V Z (e + 0) kMX11_ones 4 [some (.int l0), some (.int l1), some (.int l2)] [] (kg_w G) (some (.int res)) (kg_w G) := by
  intro n
  induction n with
  | zero => intro l0 l1 l2 res h; exact absurd h (by intro z; cases z)
  | succ n ih =>
    intro l0 l1 l2 res h
    have hk4 := ih
    rw [fX11_ones_4] at h
    refine kr_iload_n dX11_ones_4 rfl ?_
    refine kr_bipush (v := 12) dX11_ones_5 (by decide) ?_
    refine kr_icmp_ge (tgt := 24) dX11_ones_7 rfl (fun c7 => ?_) (fun c7 => ?_)
    · rw [if_pos c7] at h
      refine kr_iload_n dX11_ones_24 rfl ?_
      cases h
      exact kr_iret rfl dX11_ones_25
    · rw [if_neg c7] at h
      refine kr_iload_n dX11_ones_10 rfl ?_
      refine kr_iload_n dX11_ones_11 rfl ?_
      refine kr_iload_n dX11_ones_12 rfl ?_
      refine kr_ishr dX11_ones_13 ?_
      refine kr_iconst (v := 1) dX11_ones_14 (by decide) ?_
      refine kr_iand dX11_ones_15 ?_
      refine kr_iadd dX11_ones_16 ?_
      refine kr_istore_n (i := 1) (ls' := [some (.int l0), some (.int (l1 + ((l0 >>> (l2 &&& 31)) &&& 1))), some (.int l2)]) dX11_ones_17 rfl (Nat.le_of_ble_eq_true rfl) rfl ?_
      refine kr_iinc (v := l2 + 1) (ls' := [some (.int l0), some (.int (l1 + ((l0 >>> (l2 &&& 31)) &&& 1))), some (.int (l2 + 1))]) dX11_ones_18 rfl rfl (Nat.le_of_ble_eq_true rfl) rfl ?_
      refine kr_goto (tgt := 4) dX11_ones_21 rfl ?_
      exact hk4 _ _ _ _ h
set_option maxRecDepth 20000 in
set_option maxHeartbeats 4000000 in
theorem RX11_ones {Z : kv_Z} (e : Nat) {N : Nat} {G : kg_G} {l0 : Int32} {res : Int32} (h : fX11_ones N l0 = some res) : kv_M Z (e + 0) kMX11_ones [.int l0] (kg_w G) (some (.int res)) (kg_w G) := by
  refine kv_M_of (ls := [some (.int l0), none, none]) (by decide) (Nat.le_of_ble_eq_true rfl) rfl ?_
  unfold fX11_ones at h
  refine kr_iconst (v := 0) dX11_ones_0 (by decide) ?_
  refine kr_istore_n (i := 1) (ls' := [some (.int l0), some (.int 0), none]) dX11_ones_1 rfl (Nat.le_of_ble_eq_true rfl) rfl ?_
  refine kr_iconst (v := 0) dX11_ones_2 (by decide) ?_
  refine kr_istore_n (i := 2) (ls' := [some (.int l0), some (.int 0), some (.int 0)]) dX11_ones_3 rfl (Nat.le_of_ble_eq_true rfl) rfl ?_
  exact RX11_ones_4 e N _ _ _ _ h
set_option maxRecDepth 20000 in
set_option maxHeartbeats 4000000 in
theorem RX11_letter {Z : kv_Z} (e : Nat) {G : kg_G} {l1 : Int32} {res : Int32 × kg_G} (h : fX11_letter G l1 = some res) : kv_M Z (e + 1) kMX11_letter [.ref 28, .int l1] (kg_w G) (some (.int res.1)) (kg_w res.2) := by
  refine kv_M_of (ls := [some (.ref 28), some (.int l1)]) (by decide) (Nat.le_of_ble_eq_true rfl) rfl ?_
  unfold fX11_letter at h
  refine kr_iload_n dX11_letter_0 rfl ?_
  refine kr_i2l dX11_letter_1 ?_
  refine kr_lconst (v := 1) dX11_letter_2 (by decide) ?_
  refine kr_ldc2 (x := 126) kw5_28 dX11_letter_3 ?_
  refine kr_callSi (M' := kMX11_in) (As := [.long l1.toInt64, .long 1, .long 126]) (st := []) (RX11_in (e + 0) rfl) koX11_in rfl kw5_29 kw5_30 rfl (Nat.le_of_ble_eq_true rfl) dX11_letter_6 ?_
  refine kr_if_ne (tgt := 15) dX11_letter_9 rfl (fun c9 => ?_) (fun c9 => ?_)
  · rw [if_pos c9] at h
    refine kr_bipush (v := (-102)) dX11_letter_12 (by decide) ?_
    cases h
    exact kr_iret rfl dX11_letter_14
  · rw [if_neg c9] at h
    refine kr_aload_n dX11_letter_15 rfl ?_
    refine kx_g28_1 (G.1 28 1) rfl kw4_138 dX11_letter_16 ?_
    refine kr_bipush (v := 36) dX11_letter_19 (by decide) ?_
    refine kr_icmp_ne (tgt := 27) dX11_letter_21 rfl (fun c21 => ?_) (fun c21 => ?_)
    · rw [if_pos c21] at h
      refine kr_bipush (v := (-104)) dX11_letter_24 (by decide) ?_
      cases h
      exact kr_iret rfl dX11_letter_26
    · rw [if_neg c21] at h
      refine kr_aload_n dX11_letter_27 rfl ?_
      refine kx_g28_0 kw4_137 dX11_letter_28 ?_
      refine kr_aload_n dX11_letter_31 rfl ?_
      refine kx_g28_1 (G.1 28 1) rfl kw4_138 dX11_letter_32 ?_
      refine kr_iload_n dX11_letter_35 rfl ?_
      obtain ⟨v2, hv2, h⟩ := Option.bind_eq_some_iff.mp h
      refine kx_s29 (G.2.1 29) rfl hv2 dX11_letter_36 ?_
      refine kr_aload_n dX11_letter_37 rfl ?_
      refine kr_dup dX11_letter_38 rfl ?_
      refine kx_g28_1 (G.1 28 1) rfl kw4_138 dX11_letter_39 ?_
      refine kr_iconst (v := 1) dX11_letter_42 (by decide) ?_
      refine kr_iadd dX11_letter_43 ?_
      refine kx_p28_1 kw4_138 dX11_letter_44 ?_
      refine kr_aload_n dX11_letter_47 rfl ?_
      refine kx_g28_1 ((G.1 28 1) + 1) rfl kw4_138 dX11_letter_48 ?_
      cases h
      exact kr_iret rfl dX11_letter_51
set_option maxRecDepth 20000 in
set_option maxHeartbeats 4000000 in
theorem RX11_blank {Z : kv_Z} (e : Nat) {G : kg_G} {res : Int32 × kg_G} (h : fX11_blank G = res) : kv_M Z (e + 0) kMX11_blank [.ref 28] (kg_w G) (some (.int res.1)) (kg_w res.2) := by
  refine kv_M_of (ls := [some (.ref 28), none]) (by decide) (Nat.le_of_ble_eq_true rfl) rfl ?_
  unfold fX11_blank at h
  refine kr_aload_n dX11_blank_0 rfl ?_
  refine kx_g28_1 (G.1 28 1) rfl kw4_138 dX11_blank_1 ?_
  refine kr_istore_n (i := 1) (ls' := [some (.ref 28), some (.int (G.1 28 1))]) dX11_blank_4 rfl (Nat.le_of_ble_eq_true rfl) rfl ?_
  refine kr_aload_n dX11_blank_5 rfl ?_
  refine kr_iconst (v := 0) dX11_blank_6 (by decide) ?_
  refine kx_p28_1 kw4_138 dX11_blank_7 ?_
  refine kr_iload_n dX11_blank_10 rfl ?_
  cases h
  exact kr_iret rfl dX11_blank_11
set_option maxRecDepth 20000 in
set_option maxHeartbeats 4000000 in
theorem RX11_kindBy {Z : kv_Z} (e : Nat) {G : kg_G} {l0 : Int32} {res : Int32} (h : fX11_kindBy l0 = res) : kv_M Z (e + 0) kMX11_kindBy [.int l0] (kg_w G) (some (.int res)) (kg_w G) := by
  refine kv_M_of (ls := [some (.int l0)]) (by decide) (Nat.le_of_ble_eq_true rfl) rfl ?_
  unfold fX11_kindBy at h
  refine kr_iload_n dX11_kindBy_0 rfl ?_
  by_cases c1_108 : l0 = 108
  · rw [if_pos c1_108] at h
    refine kr_tableIn (off := 57) (tgt := 58) dX11_kindBy_1 (by rw [c1_108]; decide) (by rw [c1_108]; decide) (by rw [c1_108]; decide) rfl ?_
    refine kr_iconst (v := 3) dX11_kindBy_58 (by decide) ?_
    cases h
    exact kr_iret rfl dX11_kindBy_59
  rw [if_neg c1_108] at h
  by_cases c1_109 : l0 = 109
  · rw [if_pos c1_109] at h
    refine kr_tableIn (off := 61) (tgt := 62) dX11_kindBy_1 (by rw [c1_109]; decide) (by rw [c1_109]; decide) (by rw [c1_109]; decide) rfl ?_
    refine kr_iconst (v := (-1)) dX11_kindBy_62 (by decide) ?_
    cases h
    exact kr_iret rfl dX11_kindBy_63
  rw [if_neg c1_109] at h
  by_cases c1_110 : l0 = 110
  · rw [if_pos c1_110] at h
    refine kr_tableIn (off := 61) (tgt := 62) dX11_kindBy_1 (by rw [c1_110]; decide) (by rw [c1_110]; decide) (by rw [c1_110]; decide) rfl ?_
    refine kr_iconst (v := (-1)) dX11_kindBy_62 (by decide) ?_
    cases h
    exact kr_iret rfl dX11_kindBy_63
  rw [if_neg c1_110] at h
  by_cases c1_111 : l0 = 111
  · rw [if_pos c1_111] at h
    refine kr_tableIn (off := 61) (tgt := 62) dX11_kindBy_1 (by rw [c1_111]; decide) (by rw [c1_111]; decide) (by rw [c1_111]; decide) rfl ?_
    refine kr_iconst (v := (-1)) dX11_kindBy_62 (by decide) ?_
    cases h
    exact kr_iret rfl dX11_kindBy_63
  rw [if_neg c1_111] at h
  by_cases c1_112 : l0 = 112
  · rw [if_pos c1_112] at h
    refine kr_tableIn (off := 53) (tgt := 54) dX11_kindBy_1 (by rw [c1_112]; decide) (by rw [c1_112]; decide) (by rw [c1_112]; decide) rfl ?_
    refine kr_iconst (v := 1) dX11_kindBy_54 (by decide) ?_
    cases h
    exact kr_iret rfl dX11_kindBy_55
  rw [if_neg c1_112] at h
  by_cases c1_113 : l0 = 113
  · rw [if_pos c1_113] at h
    refine kr_tableIn (off := 61) (tgt := 62) dX11_kindBy_1 (by rw [c1_113]; decide) (by rw [c1_113]; decide) (by rw [c1_113]; decide) rfl ?_
    refine kr_iconst (v := (-1)) dX11_kindBy_62 (by decide) ?_
    cases h
    exact kr_iret rfl dX11_kindBy_63
  rw [if_neg c1_113] at h
  by_cases c1_114 : l0 = 114
  · rw [if_pos c1_114] at h
    refine kr_tableIn (off := 59) (tgt := 60) dX11_kindBy_1 (by rw [c1_114]; decide) (by rw [c1_114]; decide) (by rw [c1_114]; decide) rfl ?_
    refine kr_iconst (v := 4) dX11_kindBy_60 (by decide) ?_
    cases h
    exact kr_iret rfl dX11_kindBy_61
  rw [if_neg c1_114] at h
  by_cases c1_115 : l0 = 115
  · rw [if_pos c1_115] at h
    refine kr_tableIn (off := 55) (tgt := 56) dX11_kindBy_1 (by rw [c1_115]; decide) (by rw [c1_115]; decide) (by rw [c1_115]; decide) rfl ?_
    refine kr_iconst (v := 2) dX11_kindBy_56 (by decide) ?_
    cases h
    exact kr_iret rfl dX11_kindBy_57
  rw [if_neg c1_115] at h
  by_cases c1_116 : l0 = 116
  · rw [if_pos c1_116] at h
    refine kr_tableIn (off := 51) (tgt := 52) dX11_kindBy_1 (by rw [c1_116]; decide) (by rw [c1_116]; decide) (by rw [c1_116]; decide) rfl ?_
    refine kr_iconst (v := 0) dX11_kindBy_52 (by decide) ?_
    cases h
    exact kr_iret rfl dX11_kindBy_53
  rw [if_neg c1_116] at h
  refine kr_tableOut (tgt := 62) dX11_kindBy_1 (by have q108 := lv_neT c1_108 (a := 108) (by decide); have q109 := lv_neT c1_109 (a := 109) (by decide); have q110 := lv_neT c1_110 (a := 110) (by decide); have q111 := lv_neT c1_111 (a := 111) (by decide); have q112 := lv_neT c1_112 (a := 112) (by decide); have q113 := lv_neT c1_113 (a := 113) (by decide); have q114 := lv_neT c1_114 (a := 114) (by decide); have q115 := lv_neT c1_115 (a := 115) (by decide); have q116 := lv_neT c1_116 (a := 116) (by decide); omega) rfl ?_
  refine kr_iconst (v := (-1)) dX11_kindBy_62 (by decide) ?_
  cases h
  exact kr_iret rfl dX11_kindBy_63
set_option maxRecDepth 20000 in
set_option maxHeartbeats 4000000 in
theorem RX11_isTrickLetter_102 {Z : kv_Z} (e : Nat) {G : kg_G} : ∀ (l1 : Int32) (l2 : Int32) (res : Int32), fX11_isTrickLetter_102 G l1 l2 = some res → kv_V Z (e + 1) kMX11_isTrickLetter 102 [none, some (.int l1), some (.int l2)] [] (kg_w G) (some (.int res)) (kg_w G) := by
  intro l1 l2 res h
  unfold fX11_isTrickLetter_102 at h
  refine kr_iload_n dX11_isTrickLetter_102 rfl ?_
  refine kr_bipush (v := 59) dX11_isTrickLetter_103 (by decide) ?_
  refine kr_icmp_ne (tgt := 117) dX11_isTrickLetter_105 rfl (fun c105 => ?_) (fun c105 => ?_)
  · rw [if_pos c105] at h
    refine kr_iload_n dX11_isTrickLetter_108 rfl ?_
    refine kr_iconst (v := 4) dX11_isTrickLetter_109 (by decide) ?_
    refine kr_icmp_le (tgt := 117) dX11_isTrickLetter_110 rfl (fun c110 => ?_) (fun c110 => ?_)
    · rw [if_pos c110] at h
      refine kr_iconst (v := 0) dX11_isTrickLetter_117 (by decide) ?_
      cases h
      exact kr_zret rfl (by decide) dX11_isTrickLetter_118
    · rw [if_neg c110] at h
      refine kr_iconst (v := 1) dX11_isTrickLetter_113 (by decide) ?_
      refine kr_goto (tgt := 118) dX11_isTrickLetter_114 rfl ?_
      cases h
      exact kr_zret rfl (by decide) dX11_isTrickLetter_118
  · rw [if_neg c105] at h
    refine kr_iconst (v := 0) dX11_isTrickLetter_117 (by decide) ?_
    cases h
    exact kr_zret rfl (by decide) dX11_isTrickLetter_118
set_option maxRecDepth 20000 in
set_option maxHeartbeats 4000000 in
theorem RX11_isTrickLetter {Z : kv_Z} (e : Nat) {G : kg_G} {l1 : Int32} {res : Int32} (h : fX11_isTrickLetter G l1 = some res) : kv_M Z (e + 1) kMX11_isTrickLetter [.ref 28, .int l1] (kg_w G) (some (.int res)) (kg_w G) := by
  refine kv_M_of (ls := [some (.ref 28), some (.int l1), none]) (by decide) (Nat.le_of_ble_eq_true rfl) rfl ?_
  unfold fX11_isTrickLetter at h
  refine kr_aload_n dX11_isTrickLetter_0 rfl ?_
  refine kx_g28_0 kw4_137 dX11_isTrickLetter_1 ?_
  refine kr_iload_n dX11_isTrickLetter_4 rfl ?_
  obtain ⟨v1, hv1, h⟩ := Option.bind_eq_some_iff.mp h
  refine kx_a29 (G.2.1 29) rfl hv1 dX11_isTrickLetter_5 ?_
  refine kr_istore_n (i := 2) (ls' := [some (.ref 28), some (.int l1), some (.int v1)]) dX11_isTrickLetter_6 rfl (Nat.le_of_ble_eq_true rfl) rfl ?_
  refine kr_iload_n dX11_isTrickLetter_7 rfl ?_
  refine kr_iconst (v := 5) dX11_isTrickLetter_8 (by decide) ?_
  refine kr_irem dX11_isTrickLetter_9 (by decide) ?_
  by_cases c10_0 : (l1 - l1 / 5 * 5) = 0
  · rw [if_pos c10_0] at h
    refine kr_tableIn (off := 30) (tgt := 40) dX11_isTrickLetter_10 (by rw [c10_0]; decide) (by rw [c10_0]; decide) (by rw [c10_0]; decide) rfl ?_
    refine kr_iload_n dX11_isTrickLetter_40 rfl ?_
    refine kr_callSi (M' := kMX11_kindBy) (As := [.int v1]) (st := []) (RX11_kindBy (e + 0) rfl) koX11_kindBy rfl kw5_55 kw5_56 rfl (Nat.le_of_ble_eq_true rfl) dX11_isTrickLetter_41 ?_
    refine kr_iconst (v := (-1)) dX11_isTrickLetter_44 (by decide) ?_
    refine kr_icmp_eq (tgt := 52) dX11_isTrickLetter_45 rfl (fun c45 => ?_) (fun c45 => ?_)
    · rw [if_pos c45] at h
      refine kr_iconst (v := 0) dX11_isTrickLetter_52 (by decide) ?_
      cases h
      exact kr_zret rfl (by decide) dX11_isTrickLetter_53
    · rw [if_neg c45] at h
      refine kr_iconst (v := 1) dX11_isTrickLetter_48 (by decide) ?_
      refine kr_goto (tgt := 53) dX11_isTrickLetter_49 rfl ?_
      cases h
      exact kr_zret rfl (by decide) dX11_isTrickLetter_53
  rw [if_neg c10_0] at h
  by_cases c10_1 : (l1 - l1 / 5 * 5) = 1
  · rw [if_pos c10_1] at h
    refine kr_tableIn (off := 44) (tgt := 54) dX11_isTrickLetter_10 (by rw [c10_1]; decide) (by rw [c10_1]; decide) (by rw [c10_1]; decide) rfl ?_
    refine kr_iload_n dX11_isTrickLetter_54 rfl ?_
    refine kr_i2l dX11_isTrickLetter_55 ?_
    refine kr_ldc2 (x := 48) kw5_48 dX11_isTrickLetter_56 ?_
    refine kr_ldc2 (x := 55) kw5_58 dX11_isTrickLetter_59 ?_
    refine kr_callSi (M' := kMX11_in) (As := [.long v1.toInt64, .long 48, .long 55]) (st := []) (RX11_in (e + 0) rfl) koX11_in rfl kw5_29 kw5_30 rfl (Nat.le_of_ble_eq_true rfl) dX11_isTrickLetter_62 ?_
    obtain ⟨hz, h⟩ := kx_itn h
    cases h
    exact kr_zret rfl (kx_nar hz) dX11_isTrickLetter_65
  rw [if_neg c10_1] at h
  by_cases c10_2 : (l1 - l1 / 5 * 5) = 2
  · rw [if_pos c10_2] at h
    refine kr_tableIn (off := 56) (tgt := 66) dX11_isTrickLetter_10 (by rw [c10_2]; decide) (by rw [c10_2]; decide) (by rw [c10_2]; decide) rfl ?_
    refine kr_iload_n dX11_isTrickLetter_66 rfl ?_
    refine kr_i2l dX11_isTrickLetter_67 ?_
    refine kr_ldc2 (x := 49) kw5_59 dX11_isTrickLetter_68 ?_
    refine kr_ldc2 (x := 52) kw5_60 dX11_isTrickLetter_71 ?_
    refine kr_callSi (M' := kMX11_in) (As := [.long v1.toInt64, .long 49, .long 52]) (st := []) (RX11_in (e + 0) rfl) koX11_in rfl kw5_29 kw5_30 rfl (Nat.le_of_ble_eq_true rfl) dX11_isTrickLetter_74 ?_
    obtain ⟨hz, h⟩ := kx_itn h
    cases h
    exact kr_zret rfl (kx_nar hz) dX11_isTrickLetter_77
  rw [if_neg c10_2] at h
  by_cases c10_3 : (l1 - l1 / 5 * 5) = 3
  · rw [if_pos c10_3] at h
    refine kr_tableIn (off := 68) (tgt := 78) dX11_isTrickLetter_10 (by rw [c10_3]; decide) (by rw [c10_3]; decide) (by rw [c10_3]; decide) rfl ?_
    refine kr_iload_n dX11_isTrickLetter_78 rfl ?_
    refine kr_i2l dX11_isTrickLetter_79 ?_
    refine kr_ldc2 (x := 48) kw5_48 dX11_isTrickLetter_80 ?_
    refine kr_ldc2 (x := 57) kw5_49 dX11_isTrickLetter_83 ?_
    refine kr_callSi (M' := kMX11_in) (As := [.long v1.toInt64, .long 48, .long 57]) (st := []) (RX11_in (e + 0) rfl) koX11_in rfl kw5_29 kw5_30 rfl (Nat.le_of_ble_eq_true rfl) dX11_isTrickLetter_86 ?_
    obtain ⟨hz, h⟩ := kx_itn h
    cases h
    exact kr_zret rfl (kx_nar hz) dX11_isTrickLetter_89
  rw [if_neg c10_3] at h
  refine kr_tableOut (tgt := 90) dX11_isTrickLetter_10 (kx_out4 c10_0 c10_1 c10_2 c10_3) rfl ?_
  refine kr_iload_n dX11_isTrickLetter_90 rfl ?_
  refine kr_bipush (v := 44) dX11_isTrickLetter_91 (by decide) ?_
  refine kr_icmp_ne (tgt := 102) dX11_isTrickLetter_93 rfl (fun c93 => ?_) (fun c93 => ?_)
  · rw [if_pos c93] at h
    refine kr_iload_n dX11_isTrickLetter_96 rfl ?_
    refine kr_bipush (v := 24) dX11_isTrickLetter_97 (by decide) ?_
    refine kr_icmp_lt (tgt := 113) dX11_isTrickLetter_99 rfl (fun c99 => ?_) (fun c99 => ?_)
    · rw [if_pos c99] at h
      refine kr_iconst (v := 1) dX11_isTrickLetter_113 (by decide) ?_
      refine kr_goto (tgt := 118) dX11_isTrickLetter_114 rfl ?_
      cases h
      exact kr_zret rfl (by decide) dX11_isTrickLetter_118
    · rw [if_neg c99] at h
      refine kv_loc (ls' := [none, some (.int l1), some (.int v1)]) (And.intro rfl (And.intro rfl trivial)) ?_
      exact RX11_isTrickLetter_102 e _ _ _ h
  · rw [if_neg c93] at h
    refine kv_loc (ls' := [none, some (.int l1), some (.int v1)]) (And.intro rfl (And.intro rfl trivial)) ?_
    exact RX11_isTrickLetter_102 e _ _ _ h
set_option maxRecDepth 20000 in
set_option maxHeartbeats 4000000 in
theorem RX11_isGood_48 {Z : kv_Z} (e : Nat) : ∀ (G : kg_G) (s0 : Int64) (s1 : Int64) (s2 : Int64) (res : Int32 × kg_G), fX11_isGood_48 G s0 s1 s2 = some res → kv_V Z (e + 2) kMX11_isGood 48 [none, none, none] [.long s2, .long s1, .long s0] (kg_w G) (some (.int res.1)) (kg_w res.2) := by
  intro G s0 s1 s2 res h
  unfold fX11_isGood_48 at h
  refine kr_callSi (M' := kMX11_in) (As := [.long s0, .long s1, .long s2]) (st := []) (RX11_in (e + 1) rfl) koX11_in rfl kw5_29 kw5_30 rfl (Nat.le_of_ble_eq_true rfl) dX11_isGood_48 ?_
  refine kr_if_eq (tgt := 58) dX11_isGood_51 rfl (fun c51 => ?_) (fun c51 => ?_)
  · rw [if_pos c51] at h
    refine kr_iconst (v := 0) dX11_isGood_58 (by decide) ?_
    cases h
    exact kr_zret rfl (by decide) dX11_isGood_59
  · rw [if_neg c51] at h
    refine kr_iconst (v := 1) dX11_isGood_54 (by decide) ?_
    refine kr_goto (tgt := 59) dX11_isGood_55 rfl ?_
    cases h
    exact kr_zret rfl (by decide) dX11_isGood_59
set_option maxRecDepth 20000 in
set_option maxHeartbeats 4000000 in
theorem RX11_isGood {Z : kv_Z} (e : Nat) {G : kg_G} {l1 : Int32} {res : Int32 × kg_G} (h : fX11_isGood G l1 = some res) : kv_M Z (e + 2) kMX11_isGood [.ref 28, .int l1] (kg_w G) (some (.int res.1)) (kg_w res.2) := by
  refine kv_M_of (ls := [some (.ref 28), some (.int l1), none]) (by decide) (Nat.le_of_ble_eq_true rfl) rfl ?_
  unfold fX11_isGood at h
  refine kr_aload_n dX11_isGood_0 rfl ?_
  refine kx_g28_2 (G.1 28 2) rfl kw4_139 dX11_isGood_1 ?_
  refine kr_iconst (v := (-1)) dX11_isGood_4 (by decide) ?_
  refine kr_icmp_eq (tgt := 60) dX11_isGood_5 rfl (fun c5 => ?_) (fun c5 => ?_)
  · rw [if_pos c5] at h
    refine kr_aload_n dX11_isGood_60 rfl ?_
    refine kr_iload_n dX11_isGood_61 rfl ?_
    obtain ⟨v1, hv1, h⟩ := Option.bind_eq_some_iff.mp h
    refine kr_callVi (M' := kMX11_isTrickLetter) (a := 28) (As := [.int l1]) (st := []) (RX11_isTrickLetter (e + 0) hv1) koX11_isTrickLetter rfl rfl rfl kw5_51 kw5_53 kws_20 rfl (Nat.le_of_ble_eq_true rfl) dX11_isGood_62 ?_
    refine kr_istore_n (i := 2) (ls' := [some (.ref 28), some (.int l1), some (.int v1)]) dX11_isGood_65 rfl (Nat.le_of_ble_eq_true rfl) rfl ?_
    refine kr_aload_n dX11_isGood_66 rfl ?_
    refine kr_iload_n dX11_isGood_67 rfl ?_
    refine kr_if_eq (tgt := 86) dX11_isGood_68 rfl (fun c68 => ?_) (fun c68 => ?_)
    · rw [if_pos c68] at h
      refine kr_iconst (v := (-1)) dX11_isGood_86 (by decide) ?_
      refine kx_p28_2 kw4_139 dX11_isGood_87 ?_
      refine kr_iload_n dX11_isGood_90 rfl ?_
      obtain ⟨hz, h⟩ := kx_itn h
      cases h
      exact kr_zret rfl (kx_nar hz) dX11_isGood_91
    · rw [if_neg c68] at h
      refine kr_aload_n dX11_isGood_71 rfl ?_
      refine kx_g28_0 kw4_137 dX11_isGood_72 ?_
      refine kr_iload_n dX11_isGood_75 rfl ?_
      obtain ⟨v2, hv2, h⟩ := Option.bind_eq_some_iff.mp h
      refine kx_a29 (G.2.1 29) rfl hv2 dX11_isGood_76 ?_
      refine kr_bipush (v := 59) dX11_isGood_77 (by decide) ?_
      refine kr_icmp_ne (tgt := 86) dX11_isGood_79 rfl (fun c79 => ?_) (fun c79 => ?_)
      · rw [if_pos c79] at h
        refine kr_iload_n dX11_isGood_82 rfl ?_
        refine kr_goto (tgt := 87) dX11_isGood_83 rfl ?_
        refine kx_p28_2 kw4_139 dX11_isGood_87 ?_
        refine kr_iload_n dX11_isGood_90 rfl ?_
        obtain ⟨hz, h⟩ := kx_itn h
        cases h
        exact kr_zret rfl (kx_nar hz) dX11_isGood_91
      · rw [if_neg c79] at h
        refine kr_iconst (v := (-1)) dX11_isGood_86 (by decide) ?_
        refine kx_p28_2 kw4_139 dX11_isGood_87 ?_
        refine kr_iload_n dX11_isGood_90 rfl ?_
        obtain ⟨hz, h⟩ := kx_itn h
        cases h
        exact kr_zret rfl (kx_nar hz) dX11_isGood_91
  · rw [if_neg c5] at h
    refine kr_iload_n dX11_isGood_8 rfl ?_
    refine kr_aload_n dX11_isGood_9 rfl ?_
    refine kx_g28_2 (G.1 28 2) rfl kw4_139 dX11_isGood_10 ?_
    refine kr_isub dX11_isGood_13 ?_
    refine kr_iconst (v := 1) dX11_isGood_14 (by decide) ?_
    refine kr_isub dX11_isGood_15 ?_
    refine kr_istore_n (i := 2) (ls' := [some (.ref 28), some (.int l1), some (.int ((l1 - (G.1 28 2)) - 1))]) dX11_isGood_16 rfl (Nat.le_of_ble_eq_true rfl) rfl ?_
    refine kr_iload_n dX11_isGood_17 rfl ?_
    refine kr_bipush (v := 10) dX11_isGood_18 (by decide) ?_
    refine kr_icmp_ge (tgt := 58) dX11_isGood_20 rfl (fun c20 => ?_) (fun c20 => ?_)
    · rw [if_pos c20] at h
      refine kr_iconst (v := 0) dX11_isGood_58 (by decide) ?_
      cases h
      exact kr_zret rfl (by decide) dX11_isGood_59
    · rw [if_neg c20] at h
      refine kr_aload_n dX11_isGood_23 rfl ?_
      refine kx_g28_0 kw4_137 dX11_isGood_24 ?_
      refine kr_iload_n dX11_isGood_27 rfl ?_
      obtain ⟨v3, hv3, h⟩ := Option.bind_eq_some_iff.mp h
      refine kx_a29 (G.2.1 29) rfl hv3 dX11_isGood_28 ?_
      refine kr_i2l dX11_isGood_29 ?_
      refine kr_ldc2 (x := 48) kw5_48 dX11_isGood_30 ?_
      refine kr_iload_n dX11_isGood_33 rfl ?_
      refine kr_iconst (v := 2) dX11_isGood_34 (by decide) ?_
      refine kr_irem dX11_isGood_35 (by decide) ?_
      refine kr_if_ne (tgt := 45) dX11_isGood_36 rfl (fun c36 => ?_) (fun c36 => ?_)
      · rw [if_pos c36] at h
        refine kr_ldc2 (x := 57) kw5_49 dX11_isGood_39 ?_
        refine kr_goto (tgt := 48) dX11_isGood_42 rfl ?_
        refine kv_loc (ls' := [none, none, none]) trivial ?_
        exact RX11_isGood_48 e _ _ _ _ _ h
      · rw [if_neg c36] at h
        refine kr_ldc2 (x := 53) kw5_50 dX11_isGood_45 ?_
        refine kv_loc (ls' := [none, none, none]) trivial ?_
        exact RX11_isGood_48 e _ _ _ _ _ h
set_option maxRecDepth 20000 in
set_option maxHeartbeats 4000000 in
theorem RX11_faultOf_7 {Z : kv_Z} (e : Nat) {N : Nat} : ∀ (n : Nat) (G : kg_G) (l1 : Int32) (res : Int32 × kg_G), fX11_faultOf_7 N n G l1 = some res → kv_V Z (e + 3) kMX11_faultOf 7 [some (.ref 28), some (.int l1)] [] (kg_w G) (some (.int res.1)) (kg_w res.2) := by
  intro n
  induction n with
  | zero => intro G l1 res h; exact absurd h (by intro z; cases z)
  | succ n ih =>
    intro G l1 res h
    have hk7 := ih
    rw [fX11_faultOf_7] at h
    refine kr_iload_n dX11_faultOf_7 rfl ?_
    refine kr_aload_n dX11_faultOf_8 rfl ?_
    refine kx_g28_1 (G.1 28 1) rfl kw4_138 dX11_faultOf_9 ?_
    refine kr_icmp_ge (tgt := 29) dX11_faultOf_12 rfl (fun c12 => ?_) (fun c12 => ?_)
    · rw [if_pos c12] at h
      refine kr_iload_n dX11_faultOf_29 rfl ?_
      cases h
      exact kr_iret rfl dX11_faultOf_30
    · rw [if_neg c12] at h
      refine kr_aload_n dX11_faultOf_15 rfl ?_
      refine kr_iload_n dX11_faultOf_16 rfl ?_
      obtain ⟨v1, hv1, h⟩ := Option.bind_eq_some_iff.mp h
      refine kr_callVi (M' := kMX11_isGood) (a := 28) (As := [.int l1]) (st := []) (RX11_isGood (e + 0) hv1) koX11_isGood rfl rfl rfl kw5_44 kw5_46 kws_19 rfl (Nat.le_of_ble_eq_true rfl) dX11_faultOf_17 ?_
      refine kr_if_eq (tgt := 29) dX11_faultOf_20 rfl (fun c20 => ?_) (fun c20 => ?_)
      · rw [if_pos c20] at h
        refine kr_iload_n dX11_faultOf_29 rfl ?_
        cases h
        exact kr_iret rfl dX11_faultOf_30
      · rw [if_neg c20] at h
        refine kr_iinc (v := l1 + 1) (ls' := [some (.ref 28), some (.int (l1 + 1))]) dX11_faultOf_23 rfl rfl (Nat.le_of_ble_eq_true rfl) rfl ?_
        refine kr_goto (tgt := 7) dX11_faultOf_26 rfl ?_
        exact hk7 _ _ _ h
set_option maxRecDepth 20000 in
set_option maxHeartbeats 4000000 in
theorem RX11_faultOf {Z : kv_Z} (e : Nat) {N : Nat} {G : kg_G} {res : Int32 × kg_G} (h : fX11_faultOf N G = some res) : kv_M Z (e + 3) kMX11_faultOf [.ref 28] (kg_w G) (some (.int res.1)) (kg_w res.2) := by
  refine kv_M_of (ls := [some (.ref 28), none]) (by decide) (Nat.le_of_ble_eq_true rfl) rfl ?_
  unfold fX11_faultOf at h
  refine kr_aload_n dX11_faultOf_0 rfl ?_
  refine kr_iconst (v := (-1)) dX11_faultOf_1 (by decide) ?_
  refine kx_p28_2 kw4_139 dX11_faultOf_2 ?_
  refine kr_iconst (v := 0) dX11_faultOf_5 (by decide) ?_
  refine kr_istore_n (i := 1) (ls' := [some (.ref 28), some (.int 0)]) dX11_faultOf_6 rfl (Nat.le_of_ble_eq_true rfl) rfl ?_
  exact RX11_faultOf_7 e N _ _ _ h
set_option maxRecDepth 20000 in
set_option maxHeartbeats 4000000 in
theorem RX11_fault {Z : kv_Z} (e : Nat) {N : Nat} {G : kg_G} {res : Int32 × kg_G} (h : fX11_fault N G = some res) : kv_M Z (e + 4) kMX11_fault [.ref 28] (kg_w G) (some (.int res.1)) (kg_w res.2) := by
  refine kv_M_of (ls := [some (.ref 28)]) (by decide) (Nat.le_of_ble_eq_true rfl) rfl ?_
  unfold fX11_fault at h
  refine kr_aload_n dX11_fault_0 rfl ?_
  obtain ⟨v1, hv1, h⟩ := Option.bind_eq_some_iff.mp h
  refine kr_callVi (M' := kMX11_faultOf) (a := 28) (As := []) (st := []) (RX11_faultOf (e + 0) hv1) koX11_faultOf rfl rfl rfl kw5_40 kw5_42 kws_18 rfl (Nat.le_of_ble_eq_true rfl) dX11_fault_1 ?_
  cases h
  exact kr_iret rfl dX11_fault_4
set_option maxRecDepth 20000 in
set_option maxHeartbeats 4000000 in
theorem RX11_show_189 {Z : kv_Z} (e : Nat) {N : Nat} : ∀ (n : Nat) (G : kg_G) (l1 : Int32) (res : Int32 × kg_G), fX11_show_189 N n G l1 = some res → kv_V Z (e + 4) kMX11_show 189 [some (.ref 28), some (.int l1)] [] (kg_w G) (some (.int res.1)) (kg_w res.2) := by
  intro n
  induction n with
  | zero => intro G l1 res h; exact absurd h (by intro z; cases z)
  | succ n ih =>
    intro G l1 res h
    have hk189 := ih
    rw [fX11_show_189] at h
    refine kr_iload_n dX11_show_189 rfl ?_
    refine kr_aload_n dX11_show_190 rfl ?_
    refine kx_g28_4 (G.1 28 4) rfl kw4_141 dX11_show_191 ?_
    refine kr_icmp_ge (tgt := 268) dX11_show_194 rfl (fun c194 => ?_) (fun c194 => ?_)
    · rw [if_pos c194] at h
      refine kr_aload_n dX11_show_268 rfl ?_
      refine kr_iconst (v := 0) dX11_show_269 (by decide) ?_
      refine kx_p28_5 kw4_142 dX11_show_270 ?_
      refine kr_aload_n dX11_show_273 rfl ?_
      refine kr_iconst (v := 0) dX11_show_274 (by decide) ?_
      refine kx_p28_6 kw4_143 dX11_show_275 ?_
      refine kr_aload_n dX11_show_278 rfl ?_
      refine kr_iconst (v := 0) dX11_show_279 (by decide) ?_
      refine kx_p28_7 kw4_144 dX11_show_280 ?_
      refine kr_aload_n dX11_show_283 rfl ?_
      refine kr_iconst (v := 0) dX11_show_284 (by decide) ?_
      refine kx_p28_8 kw4_145 dX11_show_285 ?_
      refine kr_aload_n dX11_show_288 rfl ?_
      refine kr_iconst (v := 0) dX11_show_289 (by decide) ?_
      refine kx_p28_9 kw4_146 dX11_show_290 ?_
      refine kr_aload_n dX11_show_293 rfl ?_
      refine kr_iconst (v := 0) dX11_show_294 (by decide) ?_
      refine kx_p28_10 kw4_147 dX11_show_295 ?_
      refine kr_aload_n dX11_show_298 rfl ?_
      refine kr_iconst (v := 0) dX11_show_299 (by decide) ?_
      refine kx_p28_23 kw4_160 dX11_show_300 ?_
      refine kr_aload_n dX11_show_303 rfl ?_
      refine kr_dup dX11_show_304 rfl ?_
      refine kx_g28_11 (G.1 28 11) rfl kw4_148 dX11_show_305 ?_
      refine kr_iconst (v := 1) dX11_show_308 (by decide) ?_
      refine kr_iadd dX11_show_309 ?_
      refine kx_p28_11 kw4_148 dX11_show_310 ?_
      refine kr_aload_n dX11_show_313 rfl ?_
      refine kr_iconst (v := 0) dX11_show_314 (by decide) ?_
      refine kx_p28_1 kw4_138 dX11_show_315 ?_
      refine kr_aload_n dX11_show_318 rfl ?_
      refine kx_g28_3 (G.1 28 3) rfl kw4_140 dX11_show_319 ?_
      cases h
      exact kr_iret rfl dX11_show_322
    · rw [if_neg c194] at h
      refine kr_aload_n dX11_show_197 rfl ?_
      refine kx_g28_13 kw4_150 dX11_show_198 ?_
      refine kr_iconst (v := 3) dX11_show_201 (by decide) ?_
      refine kr_iload_n dX11_show_202 rfl ?_
      refine kr_imul dX11_show_203 ?_
      refine kr_aload_n dX11_show_204 rfl ?_
      refine kx_g28_0 kw4_137 dX11_show_205 ?_
      refine kr_aload_n dX11_show_208 rfl ?_
      refine kx_g28_2 (G.1 28 2) rfl kw4_139 dX11_show_209 ?_
      refine kr_iconst (v := 1) dX11_show_212 (by decide) ?_
      refine kr_iadd dX11_show_213 ?_
      refine kr_iconst (v := 2) dX11_show_214 (by decide) ?_
      refine kr_iload_n dX11_show_215 rfl ?_
      refine kr_imul dX11_show_216 ?_
      refine kr_iadd dX11_show_217 ?_
      obtain ⟨v1, hv1, h⟩ := Option.bind_eq_some_iff.mp h
      refine kx_a29 (G.2.1 29) rfl hv1 dX11_show_218 ?_
      refine kr_bipush (v := 48) dX11_show_219 (by decide) ?_
      refine kr_isub dX11_show_221 ?_
      obtain ⟨v2, hv2, h⟩ := Option.bind_eq_some_iff.mp h
      refine kx_s31 (G.2.1 31) rfl hv2 dX11_show_222 ?_
      refine kr_aload_n dX11_show_223 rfl ?_
      refine kx_g28_13 kw4_150 dX11_show_224 ?_
      refine kr_iconst (v := 3) dX11_show_227 (by decide) ?_
      refine kr_iload_n dX11_show_228 rfl ?_
      refine kr_imul dX11_show_229 ?_
      refine kr_iconst (v := 1) dX11_show_230 (by decide) ?_
      refine kr_iadd dX11_show_231 ?_
      refine kr_aload_n dX11_show_232 rfl ?_
      refine kx_g28_0 kw4_137 dX11_show_233 ?_
      refine kr_aload_n dX11_show_236 rfl ?_
      refine kx_g28_2 (G.1 28 2) rfl kw4_139 dX11_show_237 ?_
      refine kr_iconst (v := 2) dX11_show_240 (by decide) ?_
      refine kr_iadd dX11_show_241 ?_
      refine kr_iconst (v := 2) dX11_show_242 (by decide) ?_
      refine kr_iload_n dX11_show_243 rfl ?_
      refine kr_imul dX11_show_244 ?_
      refine kr_iadd dX11_show_245 ?_
      obtain ⟨v3, hv3, h⟩ := Option.bind_eq_some_iff.mp h
      refine kx_a29 (G.2.1 29) rfl hv3 dX11_show_246 ?_
      refine kr_bipush (v := 48) dX11_show_247 (by decide) ?_
      refine kr_isub dX11_show_249 ?_
      obtain ⟨v4, hv4, h⟩ := Option.bind_eq_some_iff.mp h
      refine kx_s31 v2 rfl hv4 dX11_show_250 ?_
      refine kr_aload_n dX11_show_251 rfl ?_
      refine kx_g28_13 kw4_150 dX11_show_252 ?_
      refine kr_iconst (v := 3) dX11_show_255 (by decide) ?_
      refine kr_iload_n dX11_show_256 rfl ?_
      refine kr_imul dX11_show_257 ?_
      refine kr_iconst (v := 2) dX11_show_258 (by decide) ?_
      refine kr_iadd dX11_show_259 ?_
      refine kr_iconst (v := 0) dX11_show_260 (by decide) ?_
      obtain ⟨v5, hv5, h⟩ := Option.bind_eq_some_iff.mp h
      refine kx_s31 v4 rfl hv5 dX11_show_261 ?_
      refine kr_iinc (v := l1 + 1) (ls' := [some (.ref 28), some (.int (l1 + 1))]) dX11_show_262 rfl rfl (Nat.le_of_ble_eq_true rfl) rfl ?_
      refine kr_goto (tgt := 189) dX11_show_265 rfl ?_
      exact hk189 _ _ _ h
set_option maxRecDepth 20000 in
set_option maxHeartbeats 4000000 in
theorem RX11_show_78 {Z : kv_Z} (e : Nat) {N : Nat} : ∀ (n : Nat) (G : kg_G) (l1 : Int32) (res : Int32 × kg_G), fX11_show_78 N n G l1 = some res → kv_V Z (e + 4) kMX11_show 78 [some (.ref 28), some (.int l1)] [] (kg_w G) (some (.int res.1)) (kg_w res.2) := by
  intro n
  induction n with
  | zero => intro G l1 res h; exact absurd h (by intro z; cases z)
  | succ n ih =>
    intro G l1 res h
    have hk78 := ih
    rw [fX11_show_78] at h
    refine kr_iload_n dX11_show_78 rfl ?_
    refine kr_aload_n dX11_show_79 rfl ?_
    refine kx_g28_3 (G.1 28 3) rfl kw4_140 dX11_show_80 ?_
    refine kr_icmp_ge (tgt := 187) dX11_show_83 rfl (fun c83 => ?_) (fun c83 => ?_)
    · rw [if_pos c83] at h
      refine kr_iconst (v := 0) dX11_show_187 (by decide) ?_
      refine kr_istore_n (i := 1) (ls' := [some (.ref 28), some (.int 0)]) dX11_show_188 rfl (Nat.le_of_ble_eq_true rfl) rfl ?_
      exact RX11_show_189 e N _ _ _ h
    · rw [if_neg c83] at h
      refine kr_aload_n dX11_show_86 rfl ?_
      refine kx_g28_12 kw4_149 dX11_show_87 ?_
      refine kr_iconst (v := 4) dX11_show_90 (by decide) ?_
      refine kr_iload_n dX11_show_91 rfl ?_
      refine kr_imul dX11_show_92 ?_
      refine kr_aload_n dX11_show_93 rfl ?_
      refine kx_g28_0 kw4_137 dX11_show_94 ?_
      refine kr_iconst (v := 5) dX11_show_97 (by decide) ?_
      refine kr_iload_n dX11_show_98 rfl ?_
      refine kr_imul dX11_show_99 ?_
      obtain ⟨v1, hv1, h⟩ := Option.bind_eq_some_iff.mp h
      refine kx_a29 (G.2.1 29) rfl hv1 dX11_show_100 ?_
      refine kr_callSi (M' := kMX11_kindBy) (As := [.int v1]) (st := [.int (4 * l1), .ref 30]) (RX11_kindBy (e + 3) rfl) koX11_kindBy rfl kw5_55 kw5_56 rfl (Nat.le_of_ble_eq_true rfl) dX11_show_101 ?_
      obtain ⟨v3, hv3, h⟩ := Option.bind_eq_some_iff.mp h
      refine kx_s30 (G.2.1 30) rfl hv3 dX11_show_104 ?_
      refine kr_aload_n dX11_show_105 rfl ?_
      refine kx_g28_12 kw4_149 dX11_show_106 ?_
      refine kr_iconst (v := 4) dX11_show_109 (by decide) ?_
      refine kr_iload_n dX11_show_110 rfl ?_
      refine kr_imul dX11_show_111 ?_
      refine kr_iconst (v := 1) dX11_show_112 (by decide) ?_
      refine kr_iadd dX11_show_113 ?_
      refine kr_aload_n dX11_show_114 rfl ?_
      refine kx_g28_0 kw4_137 dX11_show_115 ?_
      refine kr_iconst (v := 5) dX11_show_118 (by decide) ?_
      refine kr_iload_n dX11_show_119 rfl ?_
      refine kr_imul dX11_show_120 ?_
      refine kr_iconst (v := 1) dX11_show_121 (by decide) ?_
      refine kr_iadd dX11_show_122 ?_
      obtain ⟨v4, hv4, h⟩ := Option.bind_eq_some_iff.mp h
      refine kx_a29 (G.2.1 29) rfl hv4 dX11_show_123 ?_
      refine kr_bipush (v := 48) dX11_show_124 (by decide) ?_
      refine kr_isub dX11_show_126 ?_
      obtain ⟨v5, hv5, h⟩ := Option.bind_eq_some_iff.mp h
      refine kx_s30 v3 rfl hv5 dX11_show_127 ?_
      refine kr_aload_n dX11_show_128 rfl ?_
      refine kx_g28_12 kw4_149 dX11_show_129 ?_
      refine kr_iconst (v := 4) dX11_show_132 (by decide) ?_
      refine kr_iload_n dX11_show_133 rfl ?_
      refine kr_imul dX11_show_134 ?_
      refine kr_iconst (v := 2) dX11_show_135 (by decide) ?_
      refine kr_iadd dX11_show_136 ?_
      refine kr_aload_n dX11_show_137 rfl ?_
      refine kx_g28_0 kw4_137 dX11_show_138 ?_
      refine kr_iconst (v := 5) dX11_show_141 (by decide) ?_
      refine kr_iload_n dX11_show_142 rfl ?_
      refine kr_imul dX11_show_143 ?_
      refine kr_iconst (v := 2) dX11_show_144 (by decide) ?_
      refine kr_iadd dX11_show_145 ?_
      obtain ⟨v6, hv6, h⟩ := Option.bind_eq_some_iff.mp h
      refine kx_a29 (G.2.1 29) rfl hv6 dX11_show_146 ?_
      refine kr_bipush (v := 48) dX11_show_147 (by decide) ?_
      refine kr_isub dX11_show_149 ?_
      obtain ⟨v7, hv7, h⟩ := Option.bind_eq_some_iff.mp h
      refine kx_s30 v5 rfl hv7 dX11_show_150 ?_
      refine kr_aload_n dX11_show_151 rfl ?_
      refine kx_g28_12 kw4_149 dX11_show_152 ?_
      refine kr_iconst (v := 4) dX11_show_155 (by decide) ?_
      refine kr_iload_n dX11_show_156 rfl ?_
      refine kr_imul dX11_show_157 ?_
      refine kr_iconst (v := 3) dX11_show_158 (by decide) ?_
      refine kr_iadd dX11_show_159 ?_
      refine kr_aload_n dX11_show_160 rfl ?_
      refine kx_g28_0 kw4_137 dX11_show_161 ?_
      refine kr_iconst (v := 5) dX11_show_164 (by decide) ?_
      refine kr_iload_n dX11_show_165 rfl ?_
      refine kr_imul dX11_show_166 ?_
      refine kr_iconst (v := 3) dX11_show_167 (by decide) ?_
      refine kr_iadd dX11_show_168 ?_
      obtain ⟨v8, hv8, h⟩ := Option.bind_eq_some_iff.mp h
      refine kx_a29 (G.2.1 29) rfl hv8 dX11_show_169 ?_
      refine kr_bipush (v := 48) dX11_show_170 (by decide) ?_
      refine kr_isub dX11_show_172 ?_
      obtain ⟨v9, hv9, h⟩ := Option.bind_eq_some_iff.mp h
      refine kx_s30 v7 rfl hv9 dX11_show_173 ?_
      refine kr_aload_n dX11_show_174 rfl ?_
      refine kx_g28_14 kw4_151 dX11_show_175 ?_
      refine kr_iload_n dX11_show_178 rfl ?_
      refine kr_iconst (v := 0) dX11_show_179 (by decide) ?_
      obtain ⟨v10, hv10, h⟩ := Option.bind_eq_some_iff.mp h
      refine kx_s32 (G.2.1 32) rfl hv10 dX11_show_180 ?_
      refine kr_iinc (v := l1 + 1) (ls' := [some (.ref 28), some (.int (l1 + 1))]) dX11_show_181 rfl rfl (Nat.le_of_ble_eq_true rfl) rfl ?_
      refine kr_goto (tgt := 78) dX11_show_184 rfl ?_
      exact hk78 _ _ _ h
set_option maxRecDepth 20000 in
set_option maxHeartbeats 4000000 in
theorem RX11_show {Z : kv_Z} (e : Nat) {N : Nat} {G : kg_G} {res : Int32 × kg_G} (h : fX11_show N G = some res) : kv_M Z (e + 4) kMX11_show [.ref 28] (kg_w G) (some (.int res.1)) (kg_w res.2) := by
  refine kv_M_of (ls := [some (.ref 28), none]) (by decide) (Nat.le_of_ble_eq_true rfl) rfl ?_
  unfold fX11_show at h
  refine kr_aload_n dX11_show_0 rfl ?_
  obtain ⟨v1, hv1, h⟩ := Option.bind_eq_some_iff.mp h
  refine kr_callVi (M' := kMX11_faultOf) (a := 28) (As := []) (st := []) (RX11_faultOf (e + 0) hv1) koX11_faultOf rfl rfl rfl kw5_40 kw5_42 kws_18 rfl (Nat.le_of_ble_eq_true rfl) dX11_show_1 ?_
  refine kr_aload_n dX11_show_4 rfl ?_
  refine kx_g28_1 (v1.2.1 28 1) rfl kw4_138 dX11_show_5 ?_
  refine kr_icmp_lt (tgt := 46) dX11_show_8 rfl (fun c8 => ?_) (fun c8 => ?_)
  · rw [if_pos c8] at h
    refine kr_bipush (v := (-103)) dX11_show_46 (by decide) ?_
    cases h
    exact kr_iret rfl dX11_show_48
  · rw [if_neg c8] at h
    refine kr_aload_n dX11_show_11 rfl ?_
    refine kx_g28_2 (v1.2.1 28 2) rfl kw4_139 dX11_show_12 ?_
    refine kr_iconst (v := (-1)) dX11_show_15 (by decide) ?_
    refine kr_icmp_eq (tgt := 46) dX11_show_16 rfl (fun c16 => ?_) (fun c16 => ?_)
    · rw [if_pos c16] at h
      refine kr_bipush (v := (-103)) dX11_show_46 (by decide) ?_
      cases h
      exact kr_iret rfl dX11_show_48
    · rw [if_neg c16] at h
      refine kr_aload_n dX11_show_19 rfl ?_
      refine kx_g28_1 (v1.2.1 28 1) rfl kw4_138 dX11_show_20 ?_
      refine kr_aload_n dX11_show_23 rfl ?_
      refine kx_g28_2 (v1.2.1 28 2) rfl kw4_139 dX11_show_24 ?_
      refine kr_isub dX11_show_27 ?_
      refine kr_iconst (v := 3) dX11_show_28 (by decide) ?_
      refine kr_icmp_lt (tgt := 46) dX11_show_29 rfl (fun c29 => ?_) (fun c29 => ?_)
      · rw [if_pos c29] at h
        refine kr_bipush (v := (-103)) dX11_show_46 (by decide) ?_
        cases h
        exact kr_iret rfl dX11_show_48
      · rw [if_neg c29] at h
        refine kr_aload_n dX11_show_32 rfl ?_
        refine kx_g28_1 (v1.2.1 28 1) rfl kw4_138 dX11_show_33 ?_
        refine kr_aload_n dX11_show_36 rfl ?_
        refine kx_g28_2 (v1.2.1 28 2) rfl kw4_139 dX11_show_37 ?_
        refine kr_isub dX11_show_40 ?_
        refine kr_iconst (v := 2) dX11_show_41 (by decide) ?_
        refine kr_irem dX11_show_42 (by decide) ?_
        refine kr_if_ne (tgt := 49) dX11_show_43 rfl (fun c43 => ?_) (fun c43 => ?_)
        · rw [if_pos c43] at h
          refine kr_bipush (v := (-103)) dX11_show_46 (by decide) ?_
          cases h
          exact kr_iret rfl dX11_show_48
        · rw [if_neg c43] at h
          refine kr_aload_n dX11_show_49 rfl ?_
          refine kr_aload_n dX11_show_50 rfl ?_
          refine kx_g28_2 (v1.2.1 28 2) rfl kw4_139 dX11_show_51 ?_
          refine kr_iconst (v := 1) dX11_show_54 (by decide) ?_
          refine kr_iadd dX11_show_55 ?_
          refine kr_iconst (v := 5) dX11_show_56 (by decide) ?_
          refine kr_idiv dX11_show_57 (by decide) ?_
          refine kx_p28_3 kw4_140 dX11_show_58 ?_
          refine kr_aload_n dX11_show_61 rfl ?_
          refine kr_aload_n dX11_show_62 rfl ?_
          refine kx_g28_1 (v1.2.1 28 1) rfl kw4_138 dX11_show_63 ?_
          refine kr_aload_n dX11_show_66 rfl ?_
          refine kx_g28_2 (v1.2.1 28 2) rfl kw4_139 dX11_show_67 ?_
          refine kr_isub dX11_show_70 ?_
          refine kr_iconst (v := 2) dX11_show_71 (by decide) ?_
          refine kr_idiv dX11_show_72 (by decide) ?_
          refine kx_p28_4 kw4_141 dX11_show_73 ?_
          refine kr_iconst (v := 0) dX11_show_76 (by decide) ?_
          refine kr_istore_n (i := 1) (ls' := [some (.ref 28), some (.int 0)]) dX11_show_77 rfl (Nat.le_of_ble_eq_true rfl) rfl ?_
          exact RX11_show_78 e N _ _ _ h
set_option maxRecDepth 20000 in
set_option maxHeartbeats 4000000 in
theorem RX11_lacks {Z : kv_Z} (e : Nat) {G : kg_G} {res : Int32} (h : fX11_lacks G = res) : kv_M Z (e + 0) kMX11_lacks [.ref 28] (kg_w G) (some (.int res)) (kg_w G) := by
  refine kv_M_of (ls := [some (.ref 28)]) (by decide) (Nat.le_of_ble_eq_true rfl) rfl ?_
  unfold fX11_lacks at h
  refine kr_aload_n dX11_lacks_0 rfl ?_
  refine kx_g28_3 (G.1 28 3) rfl kw4_140 dX11_lacks_1 ?_
  refine kr_if_ne (tgt := 11) dX11_lacks_4 rfl (fun c4 => ?_) (fun c4 => ?_)
  · rw [if_pos c4] at h
    refine kr_iconst (v := 1) dX11_lacks_7 (by decide) ?_
    refine kr_goto (tgt := 12) dX11_lacks_8 rfl ?_
    cases h
    exact kr_zret rfl (by decide) dX11_lacks_12
  · rw [if_neg c4] at h
    refine kr_iconst (v := 0) dX11_lacks_11 (by decide) ?_
    cases h
    exact kr_zret rfl (by decide) dX11_lacks_12
set_option maxRecDepth 20000 in
set_option maxHeartbeats 4000000 in
theorem RX11_isTrick {Z : kv_Z} (e : Nat) {G : kg_G} {l1 : Int32} {res : Int32} (h : fX11_isTrick G l1 = some res) : kv_M Z (e + 1) kMX11_isTrick [.ref 28, .int l1] (kg_w G) (some (.int res)) (kg_w G) := by
  refine kv_M_of (ls := [some (.ref 28), some (.int l1)]) (by decide) (Nat.le_of_ble_eq_true rfl) rfl ?_
  unfold fX11_isTrick at h
  refine kr_iload_n dX11_isTrick_0 rfl ?_
  refine kr_i2l dX11_isTrick_1 ?_
  refine kr_lconst (v := 0) dX11_isTrick_2 (by decide) ?_
  refine kr_aload_n dX11_isTrick_3 rfl ?_
  refine kx_g28_3 (G.1 28 3) rfl kw4_140 dX11_isTrick_4 ?_
  refine kr_iconst (v := 1) dX11_isTrick_7 (by decide) ?_
  refine kr_isub dX11_isTrick_8 ?_
  refine kr_i2l dX11_isTrick_9 ?_
  refine kr_callSi (M' := kMX11_in) (As := [.long l1.toInt64, .long 0, .long (((G.1 28 3) - 1).toInt64)]) (st := []) (RX11_in (e + 0) rfl) koX11_in rfl kw5_29 kw5_30 rfl (Nat.le_of_ble_eq_true rfl) dX11_isTrick_10 ?_
  obtain ⟨hz, h⟩ := kx_itn h
  cases h
  exact kr_zret rfl (kx_nar hz) dX11_isTrick_13
set_option maxRecDepth 20000 in
set_option maxHeartbeats 4000000 in
theorem RX11_isPerson {Z : kv_Z} (e : Nat) {G : kg_G} {l1 : Int32} {res : Int32} (h : fX11_isPerson G l1 = some res) : kv_M Z (e + 1) kMX11_isPerson [.ref 28, .int l1] (kg_w G) (some (.int res)) (kg_w G) := by
  refine kv_M_of (ls := [some (.ref 28), some (.int l1)]) (by decide) (Nat.le_of_ble_eq_true rfl) rfl ?_
  unfold fX11_isPerson at h
  refine kr_iload_n dX11_isPerson_0 rfl ?_
  refine kr_i2l dX11_isPerson_1 ?_
  refine kr_lconst (v := 0) dX11_isPerson_2 (by decide) ?_
  refine kr_aload_n dX11_isPerson_3 rfl ?_
  refine kx_g28_4 (G.1 28 4) rfl kw4_141 dX11_isPerson_4 ?_
  refine kr_iconst (v := 1) dX11_isPerson_7 (by decide) ?_
  refine kr_isub dX11_isPerson_8 ?_
  refine kr_i2l dX11_isPerson_9 ?_
  refine kr_callSi (M' := kMX11_in) (As := [.long l1.toInt64, .long 0, .long (((G.1 28 4) - 1).toInt64)]) (st := []) (RX11_in (e + 0) rfl) koX11_in rfl kw5_29 kw5_30 rfl (Nat.le_of_ble_eq_true rfl) dX11_isPerson_10 ?_
  obtain ⟨hz, h⟩ := kx_itn h
  cases h
  exact kr_zret rfl (kx_nar hz) dX11_isPerson_13
set_option maxRecDepth 20000 in
set_option maxHeartbeats 4000000 in
theorem RX11_isKept {Z : kv_Z} (e : Nat) {G : kg_G} {l1 : Int32} {res : Int32} (h : fX11_isKept G l1 = some res) : kv_M Z (e + 0) kMX11_isKept [.ref 28, .int l1] (kg_w G) (some (.int res)) (kg_w G) := by
  refine kv_M_of (ls := [some (.ref 28), some (.int l1)]) (by decide) (Nat.le_of_ble_eq_true rfl) rfl ?_
  unfold fX11_isKept at h
  refine kr_aload_n dX11_isKept_0 rfl ?_
  refine kx_g28_13 kw4_150 dX11_isKept_1 ?_
  refine kr_iconst (v := 3) dX11_isKept_4 (by decide) ?_
  refine kr_iload_n dX11_isKept_5 rfl ?_
  refine kr_imul dX11_isKept_6 ?_
  refine kr_iconst (v := 1) dX11_isKept_7 (by decide) ?_
  refine kr_iadd dX11_isKept_8 ?_
  obtain ⟨v1, hv1, h⟩ := Option.bind_eq_some_iff.mp h
  refine kx_a31 (G.2.1 31) rfl hv1 dX11_isKept_9 ?_
  refine kr_iconst (v := (-1)) dX11_isKept_10 (by decide) ?_
  refine kr_icmp_eq (tgt := 18) dX11_isKept_11 rfl (fun c11 => ?_) (fun c11 => ?_)
  · rw [if_pos c11] at h
    refine kr_iconst (v := 0) dX11_isKept_18 (by decide) ?_
    cases h
    exact kr_zret rfl (by decide) dX11_isKept_19
  · rw [if_neg c11] at h
    refine kr_iconst (v := 1) dX11_isKept_14 (by decide) ?_
    refine kr_goto (tgt := 19) dX11_isKept_15 rfl ?_
    cases h
    exact kr_zret rfl (by decide) dX11_isKept_19
set_option maxRecDepth 20000 in
set_option maxHeartbeats 4000000 in
theorem RX11_keptSet_4 {Z : kv_Z} (e : Nat) {N : Nat} {G : kg_G} : ∀ (n : Nat) (l1 : Int32) (l2 : Int32) (res : Int32), fX11_keptSet_4 N G n l1 l2 = some res → kv_V Z (e + 1) kMX11_keptSet 4 [some (.ref 28), some (.int l1), some (.int l2)] [] (kg_w G) (some (.int res)) (kg_w G) := by
  intro n
  induction n with
  | zero => intro l1 l2 res h; exact absurd h (by intro z; cases z)
  | succ n ih =>
    intro l1 l2 res h
    have hk4 := ih
    rw [fX11_keptSet_4] at h
    refine kr_iload_n dX11_keptSet_4 rfl ?_
    refine kr_aload_n dX11_keptSet_5 rfl ?_
    refine kx_g28_4 (G.1 28 4) rfl kw4_141 dX11_keptSet_6 ?_
    refine kr_icmp_ge (tgt := 36) dX11_keptSet_9 rfl (fun c9 => ?_) (fun c9 => ?_)
    · rw [if_pos c9] at h
      refine kr_iload_n dX11_keptSet_36 rfl ?_
      cases h
      exact kr_iret rfl dX11_keptSet_37
    · rw [if_neg c9] at h
      refine kr_iload_n dX11_keptSet_12 rfl ?_
      refine kr_aload_n dX11_keptSet_13 rfl ?_
      refine kr_iload_n dX11_keptSet_14 rfl ?_
      obtain ⟨v1, hv1, h⟩ := Option.bind_eq_some_iff.mp h
      refine kr_callVi (M' := kMX11_isKept) (a := 28) (As := [.int l2]) (st := [.int l1]) (RX11_isKept (e + 0) hv1) koX11_isKept rfl rfl rfl kw5_96 kw5_98 kws_27 rfl (Nat.le_of_ble_eq_true rfl) dX11_keptSet_15 ?_
      refine kr_if_eq (tgt := 27) dX11_keptSet_18 rfl (fun c18 => ?_) (fun c18 => ?_)
      · rw [if_pos c18] at h
        refine kr_iconst (v := 0) dX11_keptSet_27 (by decide) ?_
        refine kr_ior dX11_keptSet_28 ?_
        refine kr_istore_n (i := 1) (ls' := [some (.ref 28), some (.int (l1 ||| 0)), some (.int l2)]) dX11_keptSet_29 rfl (Nat.le_of_ble_eq_true rfl) rfl ?_
        refine kr_iinc (v := l2 + 1) (ls' := [some (.ref 28), some (.int (l1 ||| 0)), some (.int (l2 + 1))]) dX11_keptSet_30 rfl rfl (Nat.le_of_ble_eq_true rfl) rfl ?_
        refine kr_goto (tgt := 4) dX11_keptSet_33 rfl ?_
        exact hk4 _ _ _ h
      · rw [if_neg c18] at h
        refine kr_iconst (v := 1) dX11_keptSet_21 (by decide) ?_
        refine kr_iload_n dX11_keptSet_22 rfl ?_
        refine kr_ishl dX11_keptSet_23 ?_
        refine kr_goto (tgt := 28) dX11_keptSet_24 rfl ?_
        refine kr_ior dX11_keptSet_28 ?_
        refine kr_istore_n (i := 1) (ls' := [some (.ref 28), some (.int (l1 ||| (1 <<< (l2 &&& 31)))), some (.int l2)]) dX11_keptSet_29 rfl (Nat.le_of_ble_eq_true rfl) rfl ?_
        refine kr_iinc (v := l2 + 1) (ls' := [some (.ref 28), some (.int (l1 ||| (1 <<< (l2 &&& 31)))), some (.int (l2 + 1))]) dX11_keptSet_30 rfl rfl (Nat.le_of_ble_eq_true rfl) rfl ?_
        refine kr_goto (tgt := 4) dX11_keptSet_33 rfl ?_
        exact hk4 _ _ _ h
set_option maxRecDepth 20000 in
set_option maxHeartbeats 4000000 in
theorem RX11_keptSet {Z : kv_Z} (e : Nat) {N : Nat} {G : kg_G} {res : Int32} (h : fX11_keptSet N G = some res) : kv_M Z (e + 1) kMX11_keptSet [.ref 28] (kg_w G) (some (.int res)) (kg_w G) := by
  refine kv_M_of (ls := [some (.ref 28), none, none]) (by decide) (Nat.le_of_ble_eq_true rfl) rfl ?_
  unfold fX11_keptSet at h
  refine kr_iconst (v := 0) dX11_keptSet_0 (by decide) ?_
  refine kr_istore_n (i := 1) (ls' := [some (.ref 28), some (.int 0), none]) dX11_keptSet_1 rfl (Nat.le_of_ble_eq_true rfl) rfl ?_
  refine kr_iconst (v := 0) dX11_keptSet_2 (by decide) ?_
  refine kr_istore_n (i := 2) (ls' := [some (.ref 28), some (.int 0), some (.int 0)]) dX11_keptSet_3 rfl (Nat.le_of_ble_eq_true rfl) rfl ?_
  exact RX11_keptSet_4 e N _ _ _ h
set_option maxRecDepth 20000 in
set_option maxHeartbeats 4000000 in
theorem RX11_wantsOf {Z : kv_Z} (e : Nat) {G : kg_G} {l1 : Int32} {res : Int32} (h : fX11_wantsOf G l1 = some res) : kv_M Z (e + 0) kMX11_wantsOf [.ref 28, .int l1] (kg_w G) (some (.int res)) (kg_w G) := by
  refine kv_M_of (ls := [some (.ref 28), some (.int l1)]) (by decide) (Nat.le_of_ble_eq_true rfl) rfl ?_
  unfold fX11_wantsOf at h
  refine kr_aload_n dX11_wantsOf_0 rfl ?_
  refine kx_g28_12 kw4_149 dX11_wantsOf_1 ?_
  refine kr_iconst (v := 4) dX11_wantsOf_4 (by decide) ?_
  refine kr_iload_n dX11_wantsOf_5 rfl ?_
  refine kr_imul dX11_wantsOf_6 ?_
  obtain ⟨v1, hv1, h⟩ := Option.bind_eq_some_iff.mp h
  refine kx_a30 (G.2.1 30) rfl hv1 dX11_wantsOf_7 ?_
  refine kr_iconst (v := 1) dX11_wantsOf_8 (by decide) ?_
  refine kr_icmp_eq (tgt := 24) dX11_wantsOf_9 rfl (fun c9 => ?_) (fun c9 => ?_)
  · rw [if_pos c9] at h
    refine kr_iconst (v := 2) dX11_wantsOf_24 (by decide) ?_
    refine kr_goto (tgt := 29) dX11_wantsOf_25 rfl ?_
    cases h
    exact kr_iret rfl dX11_wantsOf_29
  · rw [if_neg c9] at h
    refine kr_aload_n dX11_wantsOf_12 rfl ?_
    refine kx_g28_12 kw4_149 dX11_wantsOf_13 ?_
    refine kr_iconst (v := 4) dX11_wantsOf_16 (by decide) ?_
    refine kr_iload_n dX11_wantsOf_17 rfl ?_
    refine kr_imul dX11_wantsOf_18 ?_
    obtain ⟨v2, hv2, h⟩ := Option.bind_eq_some_iff.mp h
    refine kx_a30 (G.2.1 30) rfl hv2 dX11_wantsOf_19 ?_
    refine kr_iconst (v := 4) dX11_wantsOf_20 (by decide) ?_
    refine kr_icmp_ne (tgt := 28) dX11_wantsOf_21 rfl (fun c21 => ?_) (fun c21 => ?_)
    · rw [if_pos c21] at h
      refine kr_iconst (v := 2) dX11_wantsOf_24 (by decide) ?_
      refine kr_goto (tgt := 29) dX11_wantsOf_25 rfl ?_
      cases h
      exact kr_iret rfl dX11_wantsOf_29
    · rw [if_neg c21] at h
      refine kr_iconst (v := 1) dX11_wantsOf_28 (by decide) ?_
      cases h
      exact kr_iret rfl dX11_wantsOf_29
set_option maxRecDepth 20000 in
set_option maxHeartbeats 4000000 in
theorem RX11_fitsBy {Z : kv_Z} (e : Nat) {G : kg_G} {l1 : Int32} {l2 : Int32} {res : Int32} (h : fX11_fitsBy G l1 l2 = some res) : kv_M Z (e + 0) kMX11_fitsBy [.ref 28, .int l1, .int l2] (kg_w G) (some (.int res)) (kg_w G) := by
  refine kv_M_of (ls := [some (.ref 28), some (.int l1), some (.int l2), none, none]) (by decide) (Nat.le_of_ble_eq_true rfl) rfl ?_
  unfold fX11_fitsBy at h
  refine kr_aload_n dX11_fitsBy_0 rfl ?_
  refine kx_g28_12 kw4_149 dX11_fitsBy_1 ?_
  refine kr_iconst (v := 4) dX11_fitsBy_4 (by decide) ?_
  refine kr_iload_n dX11_fitsBy_5 rfl ?_
  refine kr_imul dX11_fitsBy_6 ?_
  obtain ⟨v1, hv1, h⟩ := Option.bind_eq_some_iff.mp h
  refine kx_a30 (G.2.1 30) rfl hv1 dX11_fitsBy_7 ?_
  refine kr_istore_n (i := 3) (ls' := [some (.ref 28), some (.int l1), some (.int l2), some (.int v1), none]) dX11_fitsBy_8 rfl (Nat.le_of_ble_eq_true rfl) rfl ?_
  refine kr_aload_n dX11_fitsBy_9 rfl ?_
  refine kx_g28_12 kw4_149 dX11_fitsBy_10 ?_
  refine kr_iconst (v := 4) dX11_fitsBy_13 (by decide) ?_
  refine kr_iload_n dX11_fitsBy_14 rfl ?_
  refine kr_imul dX11_fitsBy_15 ?_
  refine kr_iconst (v := 3) dX11_fitsBy_16 (by decide) ?_
  refine kr_iadd dX11_fitsBy_17 ?_
  obtain ⟨v2, hv2, h⟩ := Option.bind_eq_some_iff.mp h
  refine kx_a30 (G.2.1 30) rfl hv2 dX11_fitsBy_18 ?_
  refine kr_istore (ls' := [some (.ref 28), some (.int l1), some (.int l2), some (.int v1), some (.int v2)]) dX11_fitsBy_19 (Nat.le_of_ble_eq_true rfl) rfl ?_
  refine kr_iload_n dX11_fitsBy_21 rfl ?_
  refine kr_iconst (v := 4) dX11_fitsBy_22 (by decide) ?_
  refine kr_icmp_eq (tgt := 46) dX11_fitsBy_23 rfl (fun c23 => ?_) (fun c23 => ?_)
  · rw [if_pos c23] at h
    refine kr_iconst (v := 1) dX11_fitsBy_46 (by decide) ?_
    refine kr_goto (tgt := 51) dX11_fitsBy_47 rfl ?_
    cases h
    exact kr_zret rfl (by decide) dX11_fitsBy_51
  · rw [if_neg c23] at h
    refine kr_iload_n dX11_fitsBy_26 rfl ?_
    refine kr_iconst (v := 2) dX11_fitsBy_27 (by decide) ?_
    refine kr_icmp_ne (tgt := 40) dX11_fitsBy_28 rfl (fun c28 => ?_) (fun c28 => ?_)
    · rw [if_pos c28] at h
      refine kr_iload_n dX11_fitsBy_31 rfl ?_
      refine kr_iload dX11_fitsBy_32 rfl ?_
      refine kr_icmp_gt (tgt := 50) dX11_fitsBy_34 rfl (fun c34 => ?_) (fun c34 => ?_)
      · rw [if_pos c34] at h
        refine kr_iconst (v := 0) dX11_fitsBy_50 (by decide) ?_
        cases h
        exact kr_zret rfl (by decide) dX11_fitsBy_51
      · rw [if_neg c34] at h
        refine kr_goto (tgt := 46) dX11_fitsBy_37 rfl ?_
        refine kr_iconst (v := 1) dX11_fitsBy_46 (by decide) ?_
        refine kr_goto (tgt := 51) dX11_fitsBy_47 rfl ?_
        cases h
        exact kr_zret rfl (by decide) dX11_fitsBy_51
    · rw [if_neg c28] at h
      refine kr_iload_n dX11_fitsBy_40 rfl ?_
      refine kr_iload dX11_fitsBy_41 rfl ?_
      refine kr_icmp_lt (tgt := 50) dX11_fitsBy_43 rfl (fun c43 => ?_) (fun c43 => ?_)
      · rw [if_pos c43] at h
        refine kr_iconst (v := 0) dX11_fitsBy_50 (by decide) ?_
        cases h
        exact kr_zret rfl (by decide) dX11_fitsBy_51
      · rw [if_neg c43] at h
        refine kr_iconst (v := 1) dX11_fitsBy_46 (by decide) ?_
        refine kr_goto (tgt := 51) dX11_fitsBy_47 rfl ?_
        cases h
        exact kr_zret rfl (by decide) dX11_fitsBy_51
set_option maxRecDepth 20000 in
set_option maxHeartbeats 4000000 in
theorem RX11_fittingSet_4 {Z : kv_Z} (e : Nat) {N : Nat} {G : kg_G} : ∀ (n : Nat) (l1 : Int32) (l2 : Int32) (l3 : Int32) (res : Int32), fX11_fittingSet_4 N G n l1 l2 l3 = some res → kv_V Z (e + 1) kMX11_fittingSet 4 [some (.ref 28), some (.int l1), some (.int l2), some (.int l3)] [] (kg_w G) (some (.int res)) (kg_w G) := by
  intro n
  induction n with
  | zero => intro l1 l2 l3 res h; exact absurd h (by intro z; cases z)
  | succ n ih =>
    intro l1 l2 l3 res h
    have hk4 := ih
    rw [fX11_fittingSet_4] at h
    refine kr_iload_n dX11_fittingSet_4 rfl ?_
    refine kr_aload_n dX11_fittingSet_5 rfl ?_
    refine kx_g28_4 (G.1 28 4) rfl kw4_141 dX11_fittingSet_6 ?_
    refine kr_icmp_ge (tgt := 52) dX11_fittingSet_9 rfl (fun c9 => ?_) (fun c9 => ?_)
    · rw [if_pos c9] at h
      refine kr_iload_n dX11_fittingSet_52 rfl ?_
      cases h
      exact kr_iret rfl dX11_fittingSet_53
    · rw [if_neg c9] at h
      refine kr_iload_n dX11_fittingSet_12 rfl ?_
      refine kr_aload_n dX11_fittingSet_13 rfl ?_
      refine kr_iload_n dX11_fittingSet_14 rfl ?_
      obtain ⟨v1, hv1, h⟩ := Option.bind_eq_some_iff.mp h
      refine kr_callVi (M' := kMX11_isKept) (a := 28) (As := [.int l3]) (st := [.int l2]) (RX11_isKept (e + 0) hv1) koX11_isKept rfl rfl rfl kw5_96 kw5_98 kws_27 rfl (Nat.le_of_ble_eq_true rfl) dX11_fittingSet_15 ?_
      refine kr_if_eq (tgt := 43) dX11_fittingSet_18 rfl (fun c18 => ?_) (fun c18 => ?_)
      · rw [if_pos c18] at h
        refine kr_iconst (v := 0) dX11_fittingSet_43 (by decide) ?_
        refine kr_ior dX11_fittingSet_44 ?_
        refine kr_istore_n (i := 2) (ls' := [some (.ref 28), some (.int l1), some (.int (l2 ||| 0)), some (.int l3)]) dX11_fittingSet_45 rfl (Nat.le_of_ble_eq_true rfl) rfl ?_
        refine kr_iinc (v := l3 + 1) (ls' := [some (.ref 28), some (.int l1), some (.int (l2 ||| 0)), some (.int (l3 + 1))]) dX11_fittingSet_46 rfl rfl (Nat.le_of_ble_eq_true rfl) rfl ?_
        refine kr_goto (tgt := 4) dX11_fittingSet_49 rfl ?_
        exact hk4 _ _ _ _ h
      · rw [if_neg c18] at h
        refine kr_aload_n dX11_fittingSet_21 rfl ?_
        refine kr_aload_n dX11_fittingSet_22 rfl ?_
        refine kx_g28_13 kw4_150 dX11_fittingSet_23 ?_
        refine kr_iconst (v := 3) dX11_fittingSet_26 (by decide) ?_
        refine kr_iload_n dX11_fittingSet_27 rfl ?_
        refine kr_imul dX11_fittingSet_28 ?_
        obtain ⟨v2, hv2, h⟩ := Option.bind_eq_some_iff.mp h
        refine kx_a31 (G.2.1 31) rfl hv2 dX11_fittingSet_29 ?_
        refine kr_iload_n dX11_fittingSet_30 rfl ?_
        obtain ⟨v3, hv3, h⟩ := Option.bind_eq_some_iff.mp h
        refine kr_callVi (M' := kMX11_fitsBy) (a := 28) (As := [.int v2, .int l1]) (st := [.int l2]) (RX11_fitsBy (e + 0) hv3) koX11_fitsBy rfl rfl rfl kw5_100 kw5_102 kws_28 rfl (Nat.le_of_ble_eq_true rfl) dX11_fittingSet_31 ?_
        refine kr_if_eq (tgt := 43) dX11_fittingSet_34 rfl (fun c34 => ?_) (fun c34 => ?_)
        · rw [if_pos c34] at h
          refine kr_iconst (v := 0) dX11_fittingSet_43 (by decide) ?_
          refine kr_ior dX11_fittingSet_44 ?_
          refine kr_istore_n (i := 2) (ls' := [some (.ref 28), some (.int l1), some (.int (l2 ||| 0)), some (.int l3)]) dX11_fittingSet_45 rfl (Nat.le_of_ble_eq_true rfl) rfl ?_
          refine kr_iinc (v := l3 + 1) (ls' := [some (.ref 28), some (.int l1), some (.int (l2 ||| 0)), some (.int (l3 + 1))]) dX11_fittingSet_46 rfl rfl (Nat.le_of_ble_eq_true rfl) rfl ?_
          refine kr_goto (tgt := 4) dX11_fittingSet_49 rfl ?_
          exact hk4 _ _ _ _ h
        · rw [if_neg c34] at h
          refine kr_iconst (v := 1) dX11_fittingSet_37 (by decide) ?_
          refine kr_iload_n dX11_fittingSet_38 rfl ?_
          refine kr_ishl dX11_fittingSet_39 ?_
          refine kr_goto (tgt := 44) dX11_fittingSet_40 rfl ?_
          refine kr_ior dX11_fittingSet_44 ?_
          refine kr_istore_n (i := 2) (ls' := [some (.ref 28), some (.int l1), some (.int (l2 ||| (1 <<< (l3 &&& 31)))), some (.int l3)]) dX11_fittingSet_45 rfl (Nat.le_of_ble_eq_true rfl) rfl ?_
          refine kr_iinc (v := l3 + 1) (ls' := [some (.ref 28), some (.int l1), some (.int (l2 ||| (1 <<< (l3 &&& 31)))), some (.int (l3 + 1))]) dX11_fittingSet_46 rfl rfl (Nat.le_of_ble_eq_true rfl) rfl ?_
          refine kr_goto (tgt := 4) dX11_fittingSet_49 rfl ?_
          exact hk4 _ _ _ _ h
set_option maxRecDepth 20000 in
set_option maxHeartbeats 4000000 in
theorem RX11_fittingSet {Z : kv_Z} (e : Nat) {N : Nat} {G : kg_G} {l1 : Int32} {res : Int32} (h : fX11_fittingSet N G l1 = some res) : kv_M Z (e + 1) kMX11_fittingSet [.ref 28, .int l1] (kg_w G) (some (.int res)) (kg_w G) := by
  refine kv_M_of (ls := [some (.ref 28), some (.int l1), none, none]) (by decide) (Nat.le_of_ble_eq_true rfl) rfl ?_
  unfold fX11_fittingSet at h
  refine kr_iconst (v := 0) dX11_fittingSet_0 (by decide) ?_
  refine kr_istore_n (i := 2) (ls' := [some (.ref 28), some (.int l1), some (.int 0), none]) dX11_fittingSet_1 rfl (Nat.le_of_ble_eq_true rfl) rfl ?_
  refine kr_iconst (v := 0) dX11_fittingSet_2 (by decide) ?_
  refine kr_istore_n (i := 3) (ls' := [some (.ref 28), some (.int l1), some (.int 0), some (.int 0)]) dX11_fittingSet_3 rfl (Nat.le_of_ble_eq_true rfl) rfl ?_
  exact RX11_fittingSet_4 e N _ _ _ _ h
set_option maxRecDepth 20000 in
set_option maxHeartbeats 4000000 in
theorem RX11_strongAll_4 {Z : kv_Z} (e : Nat) {N : Nat} {G : kg_G} : ∀ (n : Nat) (l1 : Int32) (l2 : Int32) (l3 : Int32) (res : Int32), fX11_strongAll_4 N G n l1 l2 l3 = some res → kv_V Z (e + 0) kMX11_strongAll 4 [some (.ref 28), some (.int l1), some (.int l2), some (.int l3)] [] (kg_w G) (some (.int res)) (kg_w G) := by
  intro n
  induction n with
  | zero => intro l1 l2 l3 res h; exact absurd h (by intro z; cases z)
  | succ n ih =>
    intro l1 l2 l3 res h
    have hk4 := ih
    rw [fX11_strongAll_4] at h
    refine kr_iload_n dX11_strongAll_4 rfl ?_
    refine kr_aload_n dX11_strongAll_5 rfl ?_
    refine kx_g28_4 (G.1 28 4) rfl kw4_141 dX11_strongAll_6 ?_
    refine kr_icmp_ge (tgt := 35) dX11_strongAll_9 rfl (fun c9 => ?_) (fun c9 => ?_)
    · rw [if_pos c9] at h
      refine kr_iload_n dX11_strongAll_35 rfl ?_
      cases h
      exact kr_iret rfl dX11_strongAll_36
    · rw [if_neg c9] at h
      refine kr_iload_n dX11_strongAll_12 rfl ?_
      refine kr_iload_n dX11_strongAll_13 rfl ?_
      refine kr_iload_n dX11_strongAll_14 rfl ?_
      refine kr_ishr dX11_strongAll_15 ?_
      refine kr_iconst (v := 1) dX11_strongAll_16 (by decide) ?_
      refine kr_iand dX11_strongAll_17 ?_
      refine kr_aload_n dX11_strongAll_18 rfl ?_
      refine kx_g28_13 kw4_150 dX11_strongAll_19 ?_
      refine kr_iconst (v := 3) dX11_strongAll_22 (by decide) ?_
      refine kr_iload_n dX11_strongAll_23 rfl ?_
      refine kr_imul dX11_strongAll_24 ?_
      obtain ⟨v1, hv1, h⟩ := Option.bind_eq_some_iff.mp h
      refine kx_a31 (G.2.1 31) rfl hv1 dX11_strongAll_25 ?_
      refine kr_imul dX11_strongAll_26 ?_
      refine kr_iadd dX11_strongAll_27 ?_
      refine kr_istore_n (i := 2) (ls' := [some (.ref 28), some (.int l1), some (.int (l2 + (((l1 >>> (l3 &&& 31)) &&& 1) * v1))), some (.int l3)]) dX11_strongAll_28 rfl (Nat.le_of_ble_eq_true rfl) rfl ?_
      refine kr_iinc (v := l3 + 1) (ls' := [some (.ref 28), some (.int l1), some (.int (l2 + (((l1 >>> (l3 &&& 31)) &&& 1) * v1))), some (.int (l3 + 1))]) dX11_strongAll_29 rfl rfl (Nat.le_of_ble_eq_true rfl) rfl ?_
      refine kr_goto (tgt := 4) dX11_strongAll_32 rfl ?_
      exact hk4 _ _ _ _ h
set_option maxRecDepth 20000 in
set_option maxHeartbeats 4000000 in
theorem RX11_strongAll {Z : kv_Z} (e : Nat) {N : Nat} {G : kg_G} {l1 : Int32} {res : Int32} (h : fX11_strongAll N G l1 = some res) : kv_M Z (e + 0) kMX11_strongAll [.ref 28, .int l1] (kg_w G) (some (.int res)) (kg_w G) := by
  refine kv_M_of (ls := [some (.ref 28), some (.int l1), none, none]) (by decide) (Nat.le_of_ble_eq_true rfl) rfl ?_
  unfold fX11_strongAll at h
  refine kr_iconst (v := 0) dX11_strongAll_0 (by decide) ?_
  refine kr_istore_n (i := 2) (ls' := [some (.ref 28), some (.int l1), some (.int 0), none]) dX11_strongAll_1 rfl (Nat.le_of_ble_eq_true rfl) rfl ?_
  refine kr_iconst (v := 0) dX11_strongAll_2 (by decide) ?_
  refine kr_istore_n (i := 3) (ls' := [some (.ref 28), some (.int l1), some (.int 0), some (.int 0)]) dX11_strongAll_3 rfl (Nat.le_of_ble_eq_true rfl) rfl ?_
  exact RX11_strongAll_4 e N _ _ _ _ h
set_option maxRecDepth 20000 in
set_option maxHeartbeats 4000000 in
theorem RX11_isDoneBy_35 {Z : kv_Z} (e : Nat) {N : Nat} {G : kg_G} : ∀ (l1 : Int32) (l2 : Int32) (s0 : Int32) (res : Int32), fX11_isDoneBy_35 N G l1 l2 s0 = some res → kv_V Z (e + 2) kMX11_isDoneBy 35 [some (.ref 28), some (.int l1), some (.int l2), none] [.int s0] (kg_w G) (some (.int res)) (kg_w G) := by
  intro l1 l2 s0 res h
  unfold fX11_isDoneBy_35 at h
  refine kr_istore_n (i := 3) (ls' := [some (.ref 28), some (.int l1), some (.int l2), some (.int s0)]) dX11_isDoneBy_35 rfl (Nat.le_of_ble_eq_true rfl) rfl ?_
  refine kr_iload_n dX11_isDoneBy_36 rfl ?_
  obtain ⟨v1, hv1, h⟩ := Option.bind_eq_some_iff.mp h
  refine kr_callSi (M' := kMX11_ones) (As := [.int l2]) (st := []) (RX11_ones (e + 1) hv1) koX11_ones rfl kw5_89 kw5_90 rfl (Nat.le_of_ble_eq_true rfl) dX11_isDoneBy_37 ?_
  refine kr_aload_n dX11_isDoneBy_40 rfl ?_
  refine kr_iload_n dX11_isDoneBy_41 rfl ?_
  obtain ⟨v2, hv2, h⟩ := Option.bind_eq_some_iff.mp h
  refine kr_callVi (M' := kMX11_wantsOf) (a := 28) (As := [.int l1]) (st := [.int v1]) (RX11_wantsOf (e + 1) hv2) koX11_wantsOf rfl rfl rfl kw5_77 kw5_79 kws_23 rfl (Nat.le_of_ble_eq_true rfl) dX11_isDoneBy_42 ?_
  refine kr_icmp_ne (tgt := 68) dX11_isDoneBy_45 rfl (fun c45 => ?_) (fun c45 => ?_)
  · rw [if_pos c45] at h
    refine kr_iload_n dX11_isDoneBy_48 rfl ?_
    refine kr_aload_n dX11_isDoneBy_49 rfl ?_
    refine kr_iload_n dX11_isDoneBy_50 rfl ?_
    obtain ⟨v3, hv3, h⟩ := Option.bind_eq_some_iff.mp h
    refine kr_callVi (M' := kMX11_fittingSet) (a := 28) (As := [.int l1]) (st := [.int l2]) (RX11_fittingSet (e + 0) hv3) koX11_fittingSet rfl rfl rfl kw5_92 kw5_94 kws_26 rfl (Nat.le_of_ble_eq_true rfl) dX11_isDoneBy_51 ?_
    refine kr_iconst (v := (-1)) dX11_isDoneBy_54 (by decide) ?_
    refine kr_ixor dX11_isDoneBy_55 ?_
    refine kr_iand dX11_isDoneBy_56 ?_
    refine kr_if_ne (tgt := 68) dX11_isDoneBy_57 rfl (fun c57 => ?_) (fun c57 => ?_)
    · rw [if_pos c57] at h
      refine kr_iload_n dX11_isDoneBy_60 rfl ?_
      refine kr_if_eq (tgt := 68) dX11_isDoneBy_61 rfl (fun c61 => ?_) (fun c61 => ?_)
      · rw [if_pos c61] at h
        refine kr_iconst (v := 0) dX11_isDoneBy_68 (by decide) ?_
        cases h
        exact kr_zret rfl (by decide) dX11_isDoneBy_69
      · rw [if_neg c61] at h
        refine kr_iconst (v := 1) dX11_isDoneBy_64 (by decide) ?_
        refine kr_goto (tgt := 69) dX11_isDoneBy_65 rfl ?_
        cases h
        exact kr_zret rfl (by decide) dX11_isDoneBy_69
    · rw [if_neg c57] at h
      refine kr_iconst (v := 0) dX11_isDoneBy_68 (by decide) ?_
      cases h
      exact kr_zret rfl (by decide) dX11_isDoneBy_69
  · rw [if_neg c45] at h
    refine kr_iconst (v := 0) dX11_isDoneBy_68 (by decide) ?_
    cases h
    exact kr_zret rfl (by decide) dX11_isDoneBy_69
set_option maxRecDepth 20000 in
set_option maxHeartbeats 4000000 in
theorem RX11_isDoneBy_30 {Z : kv_Z} (e : Nat) {N : Nat} {G : kg_G} : ∀ (l1 : Int32) (l2 : Int32) (res : Int32), fX11_isDoneBy_30 N G l1 l2 = some res → kv_V Z (e + 2) kMX11_isDoneBy 30 [some (.ref 28), some (.int l1), some (.int l2), none] [] (kg_w G) (some (.int res)) (kg_w G) := by
  intro l1 l2 res h
  unfold fX11_isDoneBy_30 at h
  refine kr_iconst (v := 1) dX11_isDoneBy_30 (by decide) ?_
  refine kr_goto (tgt := 35) dX11_isDoneBy_31 rfl ?_
  exact RX11_isDoneBy_35 e _ _ _ _ h
set_option maxRecDepth 20000 in
set_option maxHeartbeats 4000000 in
theorem RX11_isDoneBy {Z : kv_Z} (e : Nat) {N : Nat} {G : kg_G} {l1 : Int32} {l2 : Int32} {res : Int32} (h : fX11_isDoneBy N G l1 l2 = some res) : kv_M Z (e + 2) kMX11_isDoneBy [.ref 28, .int l1, .int l2] (kg_w G) (some (.int res)) (kg_w G) := by
  refine kv_M_of (ls := [some (.ref 28), some (.int l1), some (.int l2), none]) (by decide) (Nat.le_of_ble_eq_true rfl) rfl ?_
  unfold fX11_isDoneBy at h
  refine kr_aload_n dX11_isDoneBy_0 rfl ?_
  refine kx_g28_12 kw4_149 dX11_isDoneBy_1 ?_
  refine kr_iconst (v := 4) dX11_isDoneBy_4 (by decide) ?_
  refine kr_iload_n dX11_isDoneBy_5 rfl ?_
  refine kr_imul dX11_isDoneBy_6 ?_
  obtain ⟨v1, hv1, h⟩ := Option.bind_eq_some_iff.mp h
  refine kx_a30 (G.2.1 30) rfl hv1 dX11_isDoneBy_7 ?_
  refine kr_iconst (v := 4) dX11_isDoneBy_8 (by decide) ?_
  refine kr_icmp_ne (tgt := 30) dX11_isDoneBy_9 rfl (fun c9 => ?_) (fun c9 => ?_)
  · rw [if_pos c9] at h
    refine kr_aload_n dX11_isDoneBy_12 rfl ?_
    refine kr_iload_n dX11_isDoneBy_13 rfl ?_
    obtain ⟨v2, hv2, h⟩ := Option.bind_eq_some_iff.mp h
    refine kr_callVi (M' := kMX11_strongAll) (a := 28) (As := [.int l2]) (st := []) (RX11_strongAll (e + 1) hv2) koX11_strongAll rfl rfl rfl kw5_85 kw5_87 kws_25 rfl (Nat.le_of_ble_eq_true rfl) dX11_isDoneBy_14 ?_
    refine kr_aload_n dX11_isDoneBy_17 rfl ?_
    refine kx_g28_12 kw4_149 dX11_isDoneBy_18 ?_
    refine kr_iconst (v := 4) dX11_isDoneBy_21 (by decide) ?_
    refine kr_iload_n dX11_isDoneBy_22 rfl ?_
    refine kr_imul dX11_isDoneBy_23 ?_
    refine kr_iconst (v := 3) dX11_isDoneBy_24 (by decide) ?_
    refine kr_iadd dX11_isDoneBy_25 ?_
    obtain ⟨v3, hv3, h⟩ := Option.bind_eq_some_iff.mp h
    refine kx_a30 (G.2.1 30) rfl hv3 dX11_isDoneBy_26 ?_
    refine kr_icmp_lt (tgt := 34) dX11_isDoneBy_27 rfl (fun c27 => ?_) (fun c27 => ?_)
    · rw [if_pos c27] at h
      refine kr_iconst (v := 0) dX11_isDoneBy_34 (by decide) ?_
      exact RX11_isDoneBy_35 e _ _ _ _ h
    · rw [if_neg c27] at h
      exact RX11_isDoneBy_30 e _ _ _ h
  · rw [if_neg c9] at h
    exact RX11_isDoneBy_30 e _ _ _ h
set_option maxRecDepth 20000 in
set_option maxHeartbeats 4000000 in
theorem RX11_hoursOf {Z : kv_Z} (e : Nat) {G : kg_G} {l1 : Int32} {res : Int32} (h : fX11_hoursOf G l1 = some res) : kv_M Z (e + 0) kMX11_hoursOf [.ref 28, .int l1] (kg_w G) (some (.int res)) (kg_w G) := by
  refine kv_M_of (ls := [some (.ref 28), some (.int l1)]) (by decide) (Nat.le_of_ble_eq_true rfl) rfl ?_
  unfold fX11_hoursOf at h
  refine kr_iconst (v := 1) dX11_hoursOf_0 (by decide) ?_
  refine kr_aload_n dX11_hoursOf_1 rfl ?_
  refine kx_g28_12 kw4_149 dX11_hoursOf_2 ?_
  refine kr_iconst (v := 4) dX11_hoursOf_5 (by decide) ?_
  refine kr_iload_n dX11_hoursOf_6 rfl ?_
  refine kr_imul dX11_hoursOf_7 ?_
  refine kr_iconst (v := 2) dX11_hoursOf_8 (by decide) ?_
  refine kr_iadd dX11_hoursOf_9 ?_
  obtain ⟨v1, hv1, h⟩ := Option.bind_eq_some_iff.mp h
  refine kx_a30 (G.2.1 30) rfl hv1 dX11_hoursOf_10 ?_
  refine kr_ishl dX11_hoursOf_11 ?_
  refine kr_iconst (v := 1) dX11_hoursOf_12 (by decide) ?_
  refine kr_isub dX11_hoursOf_13 ?_
  refine kr_aload_n dX11_hoursOf_14 rfl ?_
  refine kx_g28_12 kw4_149 dX11_hoursOf_15 ?_
  refine kr_iconst (v := 4) dX11_hoursOf_18 (by decide) ?_
  refine kr_iload_n dX11_hoursOf_19 rfl ?_
  refine kr_imul dX11_hoursOf_20 ?_
  refine kr_iconst (v := 1) dX11_hoursOf_21 (by decide) ?_
  refine kr_iadd dX11_hoursOf_22 ?_
  obtain ⟨v2, hv2, h⟩ := Option.bind_eq_some_iff.mp h
  refine kx_a30 (G.2.1 30) rfl hv2 dX11_hoursOf_23 ?_
  refine kr_ishl dX11_hoursOf_24 ?_
  cases h
  exact kr_iret rfl dX11_hoursOf_25
set_option maxRecDepth 20000 in
set_option maxHeartbeats 4000000 in
theorem RX11_busyBy {Z : kv_Z} (e : Nat) {G : kg_G} {l1 : Int32} {res : Int32} (h : fX11_busyBy G l1 = some res) : kv_M Z (e + 1) kMX11_busyBy [.ref 28, .int l1] (kg_w G) (some (.int res)) (kg_w G) := by
  refine kv_M_of (ls := [some (.ref 28), some (.int l1), none]) (by decide) (Nat.le_of_ble_eq_true rfl) rfl ?_
  unfold fX11_busyBy at h
  refine kr_aload_n dX11_busyBy_0 rfl ?_
  refine kr_iload_n dX11_busyBy_1 rfl ?_
  obtain ⟨v1, hv1, h⟩ := Option.bind_eq_some_iff.mp h
  refine kr_callVi (M' := kMX11_hoursOf) (a := 28) (As := [.int l1]) (st := []) (RX11_hoursOf (e + 0) hv1) koX11_hoursOf rfl rfl rfl kw5_116 kw5_118 kws_32 rfl (Nat.le_of_ble_eq_true rfl) dX11_busyBy_2 ?_
  refine kr_istore_n (i := 2) (ls' := [some (.ref 28), some (.int l1), some (.int v1)]) dX11_busyBy_5 rfl (Nat.le_of_ble_eq_true rfl) rfl ?_
  refine kr_aload_n dX11_busyBy_6 rfl ?_
  refine kx_g28_12 kw4_149 dX11_busyBy_7 ?_
  refine kr_iconst (v := 4) dX11_busyBy_10 (by decide) ?_
  refine kr_iload_n dX11_busyBy_11 rfl ?_
  refine kr_imul dX11_busyBy_12 ?_
  obtain ⟨v2, hv2, h⟩ := Option.bind_eq_some_iff.mp h
  refine kx_a30 (G.2.1 30) rfl hv2 dX11_busyBy_13 ?_
  refine kr_iconst (v := 3) dX11_busyBy_14 (by decide) ?_
  refine kr_icmp_ne (tgt := 26) dX11_busyBy_15 rfl (fun c15 => ?_) (fun c15 => ?_)
  · rw [if_pos c15] at h
    refine kr_iload_n dX11_busyBy_18 rfl ?_
    refine kr_iload_n dX11_busyBy_19 rfl ?_
    refine kr_iconst (v := 1) dX11_busyBy_20 (by decide) ?_
    refine kr_ishl dX11_busyBy_21 ?_
    refine kr_ior dX11_busyBy_22 ?_
    refine kr_goto (tgt := 27) dX11_busyBy_23 rfl ?_
    cases h
    exact kr_iret rfl dX11_busyBy_27
  · rw [if_neg c15] at h
    refine kr_iload_n dX11_busyBy_26 rfl ?_
    cases h
    exact kr_iret rfl dX11_busyBy_27
set_option maxRecDepth 20000 in
set_option maxHeartbeats 4000000 in
theorem RX11_clash {Z : kv_Z} (e : Nat) {G : kg_G} {l1 : Int32} {l2 : Int32} {res : Int32} (h : fX11_clash G l1 l2 = some res) : kv_M Z (e + 2) kMX11_clash [.ref 28, .int l1, .int l2] (kg_w G) (some (.int res)) (kg_w G) := by
  refine kv_M_of (ls := [some (.ref 28), some (.int l1), some (.int l2)]) (by decide) (Nat.le_of_ble_eq_true rfl) rfl ?_
  unfold fX11_clash at h
  refine kr_iload_n dX11_clash_0 rfl ?_
  refine kr_iload_n dX11_clash_1 rfl ?_
  refine kr_icmp_eq (tgt := 23) dX11_clash_2 rfl (fun c2 => ?_) (fun c2 => ?_)
  · rw [if_pos c2] at h
    refine kr_iconst (v := 0) dX11_clash_23 (by decide) ?_
    cases h
    exact kr_zret rfl (by decide) dX11_clash_24
  · rw [if_neg c2] at h
    refine kr_aload_n dX11_clash_5 rfl ?_
    refine kr_iload_n dX11_clash_6 rfl ?_
    obtain ⟨v1, hv1, h⟩ := Option.bind_eq_some_iff.mp h
    refine kr_callVi (M' := kMX11_busyBy) (a := 28) (As := [.int l1]) (st := []) (RX11_busyBy (e + 0) hv1) koX11_busyBy rfl rfl rfl kw5_112 kw5_114 kws_31 rfl (Nat.le_of_ble_eq_true rfl) dX11_clash_7 ?_
    refine kr_aload_n dX11_clash_10 rfl ?_
    refine kr_iload_n dX11_clash_11 rfl ?_
    obtain ⟨v2, hv2, h⟩ := Option.bind_eq_some_iff.mp h
    refine kr_callVi (M' := kMX11_busyBy) (a := 28) (As := [.int l2]) (st := [.int v1]) (RX11_busyBy (e + 0) hv2) koX11_busyBy rfl rfl rfl kw5_112 kw5_114 kws_31 rfl (Nat.le_of_ble_eq_true rfl) dX11_clash_12 ?_
    refine kr_iand dX11_clash_15 ?_
    refine kr_if_eq (tgt := 23) dX11_clash_16 rfl (fun c16 => ?_) (fun c16 => ?_)
    · rw [if_pos c16] at h
      refine kr_iconst (v := 0) dX11_clash_23 (by decide) ?_
      cases h
      exact kr_zret rfl (by decide) dX11_clash_24
    · rw [if_neg c16] at h
      refine kr_iconst (v := 1) dX11_clash_19 (by decide) ?_
      refine kr_goto (tgt := 24) dX11_clash_20 rfl ?_
      cases h
      exact kr_zret rfl (by decide) dX11_clash_24
set_option maxRecDepth 20000 in
set_option maxHeartbeats 4000000 in
theorem RX11_clashSet_4 {Z : kv_Z} (e : Nat) {N : Nat} {G : kg_G} : ∀ (n : Nat) (l1 : Int32) (l2 : Int32) (l3 : Int32) (res : Int32), fX11_clashSet_4 N G n l1 l2 l3 = some res → kv_V Z (e + 3) kMX11_clashSet 4 [some (.ref 28), some (.int l1), some (.int l2), some (.int l3)] [] (kg_w G) (some (.int res)) (kg_w G) := by
  intro n
  induction n with
  | zero => intro l1 l2 l3 res h; exact absurd h (by intro z; cases z)
  | succ n ih =>
    intro l1 l2 l3 res h
    have hk4 := ih
    rw [fX11_clashSet_4] at h
    refine kr_iload_n dX11_clashSet_4 rfl ?_
    refine kr_aload_n dX11_clashSet_5 rfl ?_
    refine kx_g28_3 (G.1 28 3) rfl kw4_140 dX11_clashSet_6 ?_
    refine kr_icmp_ge (tgt := 37) dX11_clashSet_9 rfl (fun c9 => ?_) (fun c9 => ?_)
    · rw [if_pos c9] at h
      refine kr_iload_n dX11_clashSet_37 rfl ?_
      cases h
      exact kr_iret rfl dX11_clashSet_38
    · rw [if_neg c9] at h
      refine kr_iload_n dX11_clashSet_12 rfl ?_
      refine kr_aload_n dX11_clashSet_13 rfl ?_
      refine kr_iload_n dX11_clashSet_14 rfl ?_
      refine kr_iload_n dX11_clashSet_15 rfl ?_
      obtain ⟨v1, hv1, h⟩ := Option.bind_eq_some_iff.mp h
      refine kr_callVi (M' := kMX11_clash) (a := 28) (As := [.int l1, .int l3]) (st := [.int l2]) (RX11_clash (e + 0) hv1) koX11_clash rfl rfl rfl kw5_108 kw5_110 kws_30 rfl (Nat.le_of_ble_eq_true rfl) dX11_clashSet_16 ?_
      refine kr_if_eq (tgt := 28) dX11_clashSet_19 rfl (fun c19 => ?_) (fun c19 => ?_)
      · rw [if_pos c19] at h
        refine kr_iconst (v := 0) dX11_clashSet_28 (by decide) ?_
        refine kr_ior dX11_clashSet_29 ?_
        refine kr_istore_n (i := 2) (ls' := [some (.ref 28), some (.int l1), some (.int (l2 ||| 0)), some (.int l3)]) dX11_clashSet_30 rfl (Nat.le_of_ble_eq_true rfl) rfl ?_
        refine kr_iinc (v := l3 + 1) (ls' := [some (.ref 28), some (.int l1), some (.int (l2 ||| 0)), some (.int (l3 + 1))]) dX11_clashSet_31 rfl rfl (Nat.le_of_ble_eq_true rfl) rfl ?_
        refine kr_goto (tgt := 4) dX11_clashSet_34 rfl ?_
        exact hk4 _ _ _ _ h
      · rw [if_neg c19] at h
        refine kr_iconst (v := 1) dX11_clashSet_22 (by decide) ?_
        refine kr_iload_n dX11_clashSet_23 rfl ?_
        refine kr_ishl dX11_clashSet_24 ?_
        refine kr_goto (tgt := 29) dX11_clashSet_25 rfl ?_
        refine kr_ior dX11_clashSet_29 ?_
        refine kr_istore_n (i := 2) (ls' := [some (.ref 28), some (.int l1), some (.int (l2 ||| (1 <<< (l3 &&& 31)))), some (.int l3)]) dX11_clashSet_30 rfl (Nat.le_of_ble_eq_true rfl) rfl ?_
        refine kr_iinc (v := l3 + 1) (ls' := [some (.ref 28), some (.int l1), some (.int (l2 ||| (1 <<< (l3 &&& 31)))), some (.int (l3 + 1))]) dX11_clashSet_31 rfl rfl (Nat.le_of_ble_eq_true rfl) rfl ?_
        refine kr_goto (tgt := 4) dX11_clashSet_34 rfl ?_
        exact hk4 _ _ _ _ h
set_option maxRecDepth 20000 in
set_option maxHeartbeats 4000000 in
theorem RX11_clashSet {Z : kv_Z} (e : Nat) {N : Nat} {G : kg_G} {l1 : Int32} {res : Int32} (h : fX11_clashSet N G l1 = some res) : kv_M Z (e + 3) kMX11_clashSet [.ref 28, .int l1] (kg_w G) (some (.int res)) (kg_w G) := by
  refine kv_M_of (ls := [some (.ref 28), some (.int l1), none, none]) (by decide) (Nat.le_of_ble_eq_true rfl) rfl ?_
  unfold fX11_clashSet at h
  refine kr_iconst (v := 0) dX11_clashSet_0 (by decide) ?_
  refine kr_istore_n (i := 2) (ls' := [some (.ref 28), some (.int l1), some (.int 0), none]) dX11_clashSet_1 rfl (Nat.le_of_ble_eq_true rfl) rfl ?_
  refine kr_iconst (v := 0) dX11_clashSet_2 (by decide) ?_
  refine kr_istore_n (i := 3) (ls' := [some (.ref 28), some (.int l1), some (.int 0), some (.int 0)]) dX11_clashSet_3 rfl (Nat.le_of_ble_eq_true rfl) rfl ?_
  exact RX11_clashSet_4 e N _ _ _ _ h
set_option maxRecDepth 20000 in
set_option maxHeartbeats 4000000 in
theorem RX11_tellTrick {Z : kv_Z} (e : Nat) {N : Nat} {G : kg_G} {l1 : Int32} {l2 : Int32} {res : Int32} (h : fX11_tellTrick N G l1 l2 = some res) : kv_M Z (e + 4) kMX11_tellTrick [.ref 28, .int l1, .int l2] (kg_w G) (some (.int res)) (kg_w G) := by
  refine kv_M_of (ls := [some (.ref 28), some (.int l1), some (.int l2)]) (by decide) (Nat.le_of_ble_eq_true rfl) rfl ?_
  unfold fX11_tellTrick at h
  refine kr_iload_n dX11_tellTrick_0 rfl ?_
  by_cases c1_0 : l2 = 0
  · rw [if_pos c1_0] at h
    refine kr_tableIn (off := 51) (tgt := 52) dX11_tellTrick_1 (by rw [c1_0]; decide) (by rw [c1_0]; decide) (by rw [c1_0]; decide) rfl ?_
    refine kr_aload_n dX11_tellTrick_52 rfl ?_
    refine kx_g28_12 kw4_149 dX11_tellTrick_53 ?_
    refine kr_iconst (v := 4) dX11_tellTrick_56 (by decide) ?_
    refine kr_iload_n dX11_tellTrick_57 rfl ?_
    refine kr_imul dX11_tellTrick_58 ?_
    refine kr_iload_n dX11_tellTrick_59 rfl ?_
    refine kr_iadd dX11_tellTrick_60 ?_
    obtain ⟨v1, hv1, h⟩ := Option.bind_eq_some_iff.mp h
    refine kx_a30 (G.2.1 30) rfl hv1 dX11_tellTrick_61 ?_
    cases h
    exact kr_iret rfl dX11_tellTrick_62
  rw [if_neg c1_0] at h
  by_cases c1_1 : l2 = 1
  · rw [if_pos c1_1] at h
    refine kr_tableIn (off := 51) (tgt := 52) dX11_tellTrick_1 (by rw [c1_1]; decide) (by rw [c1_1]; decide) (by rw [c1_1]; decide) rfl ?_
    refine kr_aload_n dX11_tellTrick_52 rfl ?_
    refine kx_g28_12 kw4_149 dX11_tellTrick_53 ?_
    refine kr_iconst (v := 4) dX11_tellTrick_56 (by decide) ?_
    refine kr_iload_n dX11_tellTrick_57 rfl ?_
    refine kr_imul dX11_tellTrick_58 ?_
    refine kr_iload_n dX11_tellTrick_59 rfl ?_
    refine kr_iadd dX11_tellTrick_60 ?_
    obtain ⟨v2, hv2, h⟩ := Option.bind_eq_some_iff.mp h
    refine kx_a30 (G.2.1 30) rfl hv2 dX11_tellTrick_61 ?_
    cases h
    exact kr_iret rfl dX11_tellTrick_62
  rw [if_neg c1_1] at h
  by_cases c1_2 : l2 = 2
  · rw [if_pos c1_2] at h
    refine kr_tableIn (off := 51) (tgt := 52) dX11_tellTrick_1 (by rw [c1_2]; decide) (by rw [c1_2]; decide) (by rw [c1_2]; decide) rfl ?_
    refine kr_aload_n dX11_tellTrick_52 rfl ?_
    refine kx_g28_12 kw4_149 dX11_tellTrick_53 ?_
    refine kr_iconst (v := 4) dX11_tellTrick_56 (by decide) ?_
    refine kr_iload_n dX11_tellTrick_57 rfl ?_
    refine kr_imul dX11_tellTrick_58 ?_
    refine kr_iload_n dX11_tellTrick_59 rfl ?_
    refine kr_iadd dX11_tellTrick_60 ?_
    obtain ⟨v3, hv3, h⟩ := Option.bind_eq_some_iff.mp h
    refine kx_a30 (G.2.1 30) rfl hv3 dX11_tellTrick_61 ?_
    cases h
    exact kr_iret rfl dX11_tellTrick_62
  rw [if_neg c1_2] at h
  by_cases c1_3 : l2 = 3
  · rw [if_pos c1_3] at h
    refine kr_tableIn (off := 51) (tgt := 52) dX11_tellTrick_1 (by rw [c1_3]; decide) (by rw [c1_3]; decide) (by rw [c1_3]; decide) rfl ?_
    refine kr_aload_n dX11_tellTrick_52 rfl ?_
    refine kx_g28_12 kw4_149 dX11_tellTrick_53 ?_
    refine kr_iconst (v := 4) dX11_tellTrick_56 (by decide) ?_
    refine kr_iload_n dX11_tellTrick_57 rfl ?_
    refine kr_imul dX11_tellTrick_58 ?_
    refine kr_iload_n dX11_tellTrick_59 rfl ?_
    refine kr_iadd dX11_tellTrick_60 ?_
    obtain ⟨v4, hv4, h⟩ := Option.bind_eq_some_iff.mp h
    refine kx_a30 (G.2.1 30) rfl hv4 dX11_tellTrick_61 ?_
    cases h
    exact kr_iret rfl dX11_tellTrick_62
  rw [if_neg c1_3] at h
  by_cases c1_4 : l2 = 4
  · rw [if_pos c1_4] at h
    refine kr_tableIn (off := 62) (tgt := 63) dX11_tellTrick_1 (by rw [c1_4]; decide) (by rw [c1_4]; decide) (by rw [c1_4]; decide) rfl ?_
    refine kr_aload_n dX11_tellTrick_63 rfl ?_
    refine kr_iload_n dX11_tellTrick_64 rfl ?_
    obtain ⟨v5, hv5, h⟩ := Option.bind_eq_some_iff.mp h
    refine kr_callVi (M' := kMX11_wantsOf) (a := 28) (As := [.int l1]) (st := []) (RX11_wantsOf (e + 3) hv5) koX11_wantsOf rfl rfl rfl kw5_77 kw5_79 kws_23 rfl (Nat.le_of_ble_eq_true rfl) dX11_tellTrick_65 ?_
    cases h
    exact kr_iret rfl dX11_tellTrick_68
  rw [if_neg c1_4] at h
  by_cases c1_5 : l2 = 5
  · rw [if_pos c1_5] at h
    refine kr_tableIn (off := 68) (tgt := 69) dX11_tellTrick_1 (by rw [c1_5]; decide) (by rw [c1_5]; decide) (by rw [c1_5]; decide) rfl ?_
    refine kr_aload_n dX11_tellTrick_69 rfl ?_
    refine kx_g28_14 kw4_151 dX11_tellTrick_70 ?_
    refine kr_iload_n dX11_tellTrick_73 rfl ?_
    obtain ⟨v6, hv6, h⟩ := Option.bind_eq_some_iff.mp h
    refine kx_a32 (G.2.1 32) rfl hv6 dX11_tellTrick_74 ?_
    cases h
    exact kr_iret rfl dX11_tellTrick_75
  rw [if_neg c1_5] at h
  by_cases c1_6 : l2 = 6
  · rw [if_pos c1_6] at h
    refine kr_tableIn (off := 75) (tgt := 76) dX11_tellTrick_1 (by rw [c1_6]; decide) (by rw [c1_6]; decide) (by rw [c1_6]; decide) rfl ?_
    refine kr_aload_n dX11_tellTrick_76 rfl ?_
    refine kr_iload_n dX11_tellTrick_77 rfl ?_
    refine kr_aload_n dX11_tellTrick_78 rfl ?_
    refine kx_g28_14 kw4_151 dX11_tellTrick_79 ?_
    refine kr_iload_n dX11_tellTrick_82 rfl ?_
    obtain ⟨v7, hv7, h⟩ := Option.bind_eq_some_iff.mp h
    refine kx_a32 (G.2.1 32) rfl hv7 dX11_tellTrick_83 ?_
    obtain ⟨v8, hv8, h⟩ := Option.bind_eq_some_iff.mp h
    refine kr_callVi (M' := kMX11_isDoneBy) (a := 28) (As := [.int l1, .int v7]) (st := []) (RX11_isDoneBy (e + 1) hv8) koX11_isDoneBy rfl rfl rfl kw5_81 kw5_83 kws_24 rfl (Nat.le_of_ble_eq_true rfl) dX11_tellTrick_84 ?_
    refine kr_if_eq (tgt := 94) dX11_tellTrick_87 rfl (fun c87 => ?_) (fun c87 => ?_)
    · rw [if_pos c87] at h
      refine kr_iconst (v := 0) dX11_tellTrick_94 (by decide) ?_
      cases h
      exact kr_iret rfl dX11_tellTrick_95
    · rw [if_neg c87] at h
      refine kr_iconst (v := 1) dX11_tellTrick_90 (by decide) ?_
      refine kr_goto (tgt := 95) dX11_tellTrick_91 rfl ?_
      cases h
      exact kr_iret rfl dX11_tellTrick_95
  rw [if_neg c1_6] at h
  by_cases c1_7 : l2 = 7
  · rw [if_pos c1_7] at h
    refine kr_tableIn (off := 95) (tgt := 96) dX11_tellTrick_1 (by rw [c1_7]; decide) (by rw [c1_7]; decide) (by rw [c1_7]; decide) rfl ?_
    refine kr_aload_n dX11_tellTrick_96 rfl ?_
    refine kr_iload_n dX11_tellTrick_97 rfl ?_
    obtain ⟨v9, hv9, h⟩ := Option.bind_eq_some_iff.mp h
    refine kr_callVi (M' := kMX11_fittingSet) (a := 28) (As := [.int l1]) (st := []) (RX11_fittingSet (e + 2) hv9) koX11_fittingSet rfl rfl rfl kw5_92 kw5_94 kws_26 rfl (Nat.le_of_ble_eq_true rfl) dX11_tellTrick_98 ?_
    cases h
    exact kr_iret rfl dX11_tellTrick_101
  rw [if_neg c1_7] at h
  by_cases c1_8 : l2 = 8
  · rw [if_pos c1_8] at h
    refine kr_tableIn (off := 101) (tgt := 102) dX11_tellTrick_1 (by rw [c1_8]; decide) (by rw [c1_8]; decide) (by rw [c1_8]; decide) rfl ?_
    refine kr_aload_n dX11_tellTrick_102 rfl ?_
    refine kr_iload_n dX11_tellTrick_103 rfl ?_
    obtain ⟨v10, hv10, h⟩ := Option.bind_eq_some_iff.mp h
    refine kr_callVi (M' := kMX11_clashSet) (a := 28) (As := [.int l1]) (st := []) (RX11_clashSet (e + 0) hv10) koX11_clashSet rfl rfl rfl kw5_104 kw5_106 kws_29 rfl (Nat.le_of_ble_eq_true rfl) dX11_tellTrick_104 ?_
    cases h
    exact kr_iret rfl dX11_tellTrick_107
  rw [if_neg c1_8] at h
  refine kr_tableOut (tgt := 108) dX11_tellTrick_1 (kx_out9 c1_0 c1_1 c1_2 c1_3 c1_4 c1_5 c1_6 c1_7 c1_8) rfl ?_
  refine kr_bipush (v := (-102)) dX11_tellTrick_108 (by decide) ?_
  cases h
  exact kr_iret rfl dX11_tellTrick_110
set_option maxRecDepth 20000 in
set_option maxHeartbeats 4000000 in
theorem RX11_trick {Z : kv_Z} (e : Nat) {N : Nat} {G : kg_G} {l1 : Int32} {l2 : Int32} {res : Int32} (h : fX11_trick N G l1 l2 = some res) : kv_M Z (e + 5) kMX11_trick [.ref 28, .int l1, .int l2] (kg_w G) (some (.int res)) (kg_w G) := by
  refine kv_M_of (ls := [some (.ref 28), some (.int l1), some (.int l2)]) (by decide) (Nat.le_of_ble_eq_true rfl) rfl ?_
  unfold fX11_trick at h
  refine kr_aload_n dX11_trick_0 rfl ?_
  refine kr_iload_n dX11_trick_1 rfl ?_
  obtain ⟨v1, hv1, h⟩ := Option.bind_eq_some_iff.mp h
  refine kr_callVi (M' := kMX11_isTrick) (a := 28) (As := [.int l1]) (st := []) (RX11_isTrick (e + 3) hv1) koX11_isTrick rfl rfl rfl kw5_69 kw5_71 kws_21 rfl (Nat.le_of_ble_eq_true rfl) dX11_trick_2 ?_
  refine kr_if_eq (tgt := 17) dX11_trick_5 rfl (fun c5 => ?_) (fun c5 => ?_)
  · rw [if_pos c5] at h
    refine kr_bipush (v := (-101)) dX11_trick_17 (by decide) ?_
    cases h
    exact kr_iret rfl dX11_trick_19
  · rw [if_neg c5] at h
    refine kr_aload_n dX11_trick_8 rfl ?_
    refine kr_iload_n dX11_trick_9 rfl ?_
    refine kr_iload_n dX11_trick_10 rfl ?_
    obtain ⟨v2, hv2, h⟩ := Option.bind_eq_some_iff.mp h
    refine kr_callVi (M' := kMX11_tellTrick) (a := 28) (As := [.int l1, .int l2]) (st := []) (RX11_tellTrick (e + 0) hv2) koX11_tellTrick rfl rfl rfl kw5_73 kw5_75 kws_22 rfl (Nat.le_of_ble_eq_true rfl) dX11_trick_11 ?_
    refine kr_goto (tgt := 19) dX11_trick_14 rfl ?_
    cases h
    exact kr_iret rfl dX11_trick_19
set_option maxRecDepth 20000 in
set_option maxHeartbeats 4000000 in
theorem RX11_as_59 {Z : kv_Z} (e : Nat) {G : kg_G} : ∀ (l1 : Int32) (s0 : Int32) (res : Int32), fX11_as_59 G l1 s0 = some res → kv_V Z (e + 2) kMX11_as 59 [none, some (.int l1), none, none, none] [.int s0] (kg_w G) (some (.int res)) (kg_w G) := by
  intro l1 s0 res h
  unfold fX11_as_59 at h
  refine kr_istore (ls' := [none, some (.int l1), none, none, some (.int s0)]) dX11_as_59 (Nat.le_of_ble_eq_true rfl) rfl ?_
  refine kr_iload dX11_as_61 rfl ?_
  refine kr_if_eq (tgt := 70) dX11_as_63 rfl (fun c63 => ?_) (fun c63 => ?_)
  · rw [if_pos c63] at h
    refine kr_iconst (v := (-1)) dX11_as_70 (by decide) ?_
    cases h
    exact kr_iret rfl dX11_as_71
  · rw [if_neg c63] at h
    refine kr_iload_n dX11_as_66 rfl ?_
    refine kr_goto (tgt := 71) dX11_as_67 rfl ?_
    cases h
    exact kr_iret rfl dX11_as_71
set_option maxRecDepth 20000 in
set_option maxHeartbeats 4000000 in
theorem RX11_as_54 {Z : kv_Z} (e : Nat) {G : kg_G} : ∀ (l1 : Int32) (res : Int32), fX11_as_54 G l1 = some res → kv_V Z (e + 2) kMX11_as 54 [none, some (.int l1), none, none, none] [] (kg_w G) (some (.int res)) (kg_w G) := by
  intro l1 res h
  unfold fX11_as_54 at h
  refine kr_iconst (v := 1) dX11_as_54 (by decide) ?_
  refine kr_goto (tgt := 59) dX11_as_55 rfl ?_
  exact RX11_as_59 e _ _ _ h
set_option maxRecDepth 20000 in
set_option maxHeartbeats 4000000 in
theorem RX11_as_58 {Z : kv_Z} (e : Nat) {G : kg_G} : ∀ (l1 : Int32) (res : Int32), fX11_as_58 G l1 = some res → kv_V Z (e + 2) kMX11_as 58 [none, some (.int l1), none, none, none] [] (kg_w G) (some (.int res)) (kg_w G) := by
  intro l1 res h
  unfold fX11_as_58 at h
  refine kr_iconst (v := 0) dX11_as_58 (by decide) ?_
  exact RX11_as_59 e _ _ _ h
set_option maxRecDepth 20000 in
set_option maxHeartbeats 4000000 in
theorem RX11_as {Z : kv_Z} (e : Nat) {G : kg_G} {l1 : Int32} {l2 : Int32} {res : Int32} (h : fX11_as G l1 l2 = some res) : kv_M Z (e + 2) kMX11_as [.ref 28, .int l1, .int l2] (kg_w G) (some (.int res)) (kg_w G) := by
  refine kv_M_of (ls := [some (.ref 28), some (.int l1), some (.int l2), none, none]) (by decide) (Nat.le_of_ble_eq_true rfl) rfl ?_
  unfold fX11_as at h
  refine kr_aload_n dX11_as_0 rfl ?_
  refine kr_iload_n dX11_as_1 rfl ?_
  obtain ⟨v1, hv1, h⟩ := Option.bind_eq_some_iff.mp h
  refine kr_callVi (M' := kMX11_isTrick) (a := 28) (As := [.int l1]) (st := []) (RX11_isTrick (e + 0) hv1) koX11_isTrick rfl rfl rfl kw5_69 kw5_71 kws_21 rfl (Nat.le_of_ble_eq_true rfl) dX11_as_2 ?_
  refine kr_if_ne (tgt := 11) dX11_as_5 rfl (fun c5 => ?_) (fun c5 => ?_)
  · rw [if_pos c5] at h
    refine kr_bipush (v := (-101)) dX11_as_8 (by decide) ?_
    cases h
    exact kr_iret rfl dX11_as_10
  · rw [if_neg c5] at h
    refine kr_iload_n dX11_as_11 rfl ?_
    refine kr_i2l dX11_as_12 ?_
    refine kr_lconst (v := 0) dX11_as_13 (by decide) ?_
    refine kr_ldc2 (x := 4) kw5_124 dX11_as_14 ?_
    refine kr_callSi (M' := kMX11_in) (As := [.long l2.toInt64, .long 0, .long 4]) (st := []) (RX11_in (e + 1) rfl) koX11_in rfl kw5_29 kw5_30 rfl (Nat.le_of_ble_eq_true rfl) dX11_as_17 ?_
    refine kr_if_ne (tgt := 26) dX11_as_20 rfl (fun c20 => ?_) (fun c20 => ?_)
    · rw [if_pos c20] at h
      refine kr_bipush (v := (-102)) dX11_as_23 (by decide) ?_
      cases h
      exact kr_iret rfl dX11_as_25
    · rw [if_neg c20] at h
      refine kr_aload_n dX11_as_26 rfl ?_
      refine kx_g28_12 kw4_149 dX11_as_27 ?_
      refine kr_iconst (v := 4) dX11_as_30 (by decide) ?_
      refine kr_iload_n dX11_as_31 rfl ?_
      refine kr_imul dX11_as_32 ?_
      obtain ⟨v3, hv3, h⟩ := Option.bind_eq_some_iff.mp h
      refine kx_a30 (G.2.1 30) rfl hv3 dX11_as_33 ?_
      refine kr_istore_n (i := 3) (ls' := [some (.ref 28), some (.int l1), some (.int l2), some (.int v3), none]) dX11_as_34 rfl (Nat.le_of_ble_eq_true rfl) rfl ?_
      refine kr_iload_n dX11_as_35 rfl ?_
      refine kr_if_eq (tgt := 54) dX11_as_36 rfl (fun c36 => ?_) (fun c36 => ?_)
      · rw [if_pos c36] at h
        refine kv_loc (ls' := [none, some (.int l1), none, none, none]) (And.intro rfl trivial) ?_
        exact RX11_as_54 e _ _ h
      · rw [if_neg c36] at h
        refine kr_iload_n dX11_as_39 rfl ?_
        refine kr_iload_n dX11_as_40 rfl ?_
        refine kr_icmp_eq (tgt := 54) dX11_as_41 rfl (fun c41 => ?_) (fun c41 => ?_)
        · rw [if_pos c41] at h
          refine kv_loc (ls' := [none, some (.int l1), none, none, none]) (And.intro rfl trivial) ?_
          exact RX11_as_54 e _ _ h
        · rw [if_neg c41] at h
          refine kr_iload_n dX11_as_44 rfl ?_
          refine kr_iconst (v := 1) dX11_as_45 (by decide) ?_
          refine kr_icmp_ne (tgt := 58) dX11_as_46 rfl (fun c46 => ?_) (fun c46 => ?_)
          · rw [if_pos c46] at h
            refine kr_iload_n dX11_as_49 rfl ?_
            refine kr_iconst (v := 4) dX11_as_50 (by decide) ?_
            refine kr_icmp_ne (tgt := 58) dX11_as_51 rfl (fun c51 => ?_) (fun c51 => ?_)
            · rw [if_pos c51] at h
              refine kv_loc (ls' := [none, some (.int l1), none, none, none]) (And.intro rfl trivial) ?_
              exact RX11_as_54 e _ _ h
            · rw [if_neg c51] at h
              refine kv_loc (ls' := [none, some (.int l1), none, none, none]) (And.intro rfl trivial) ?_
              exact RX11_as_58 e _ _ h
          · rw [if_neg c46] at h
            refine kv_loc (ls' := [none, some (.int l1), none, none, none]) (And.intro rfl trivial) ?_
            exact RX11_as_58 e _ _ h
set_option maxRecDepth 20000 in
set_option maxHeartbeats 4000000 in
theorem RX11_castSet_4 {Z : kv_Z} (e : Nat) {N : Nat} {G : kg_G} : ∀ (n : Nat) (l1 : Int32) (l2 : Int32) (l3 : Int32) (res : Int32), fX11_castSet_4 N G n l1 l2 l3 = some res → kv_V Z (e + 0) kMX11_castSet 4 [some (.ref 28), some (.int l1), some (.int l2), some (.int l3)] [] (kg_w G) (some (.int res)) (kg_w G) := by
  intro n
  induction n with
  | zero => intro l1 l2 l3 res h; exact absurd h (by intro z; cases z)
  | succ n ih =>
    intro l1 l2 l3 res h
    have hk4 := ih
    rw [fX11_castSet_4] at h
    refine kr_iload_n dX11_castSet_4 rfl ?_
    refine kr_aload_n dX11_castSet_5 rfl ?_
    refine kx_g28_3 (G.1 28 3) rfl kw4_140 dX11_castSet_6 ?_
    refine kr_icmp_ge (tgt := 33) dX11_castSet_9 rfl (fun c9 => ?_) (fun c9 => ?_)
    · rw [if_pos c9] at h
      refine kr_iload_n dX11_castSet_33 rfl ?_
      cases h
      exact kr_iret rfl dX11_castSet_34
    · rw [if_neg c9] at h
      refine kr_iload_n dX11_castSet_12 rfl ?_
      refine kr_aload_n dX11_castSet_13 rfl ?_
      refine kx_g28_14 kw4_151 dX11_castSet_14 ?_
      refine kr_iload_n dX11_castSet_17 rfl ?_
      obtain ⟨v1, hv1, h⟩ := Option.bind_eq_some_iff.mp h
      refine kx_a32 (G.2.1 32) rfl hv1 dX11_castSet_18 ?_
      refine kr_iload_n dX11_castSet_19 rfl ?_
      refine kr_ishr dX11_castSet_20 ?_
      refine kr_iconst (v := 1) dX11_castSet_21 (by decide) ?_
      refine kr_iand dX11_castSet_22 ?_
      refine kr_iload_n dX11_castSet_23 rfl ?_
      refine kr_ishl dX11_castSet_24 ?_
      refine kr_ior dX11_castSet_25 ?_
      refine kr_istore_n (i := 2) (ls' := [some (.ref 28), some (.int l1), some (.int (l2 ||| (((v1 >>> (l1 &&& 31)) &&& 1) <<< (l3 &&& 31)))), some (.int l3)]) dX11_castSet_26 rfl (Nat.le_of_ble_eq_true rfl) rfl ?_
      refine kr_iinc (v := l3 + 1) (ls' := [some (.ref 28), some (.int l1), some (.int (l2 ||| (((v1 >>> (l1 &&& 31)) &&& 1) <<< (l3 &&& 31)))), some (.int (l3 + 1))]) dX11_castSet_27 rfl rfl (Nat.le_of_ble_eq_true rfl) rfl ?_
      refine kr_goto (tgt := 4) dX11_castSet_30 rfl ?_
      exact hk4 _ _ _ _ h
set_option maxRecDepth 20000 in
set_option maxHeartbeats 4000000 in
theorem RX11_castSet {Z : kv_Z} (e : Nat) {N : Nat} {G : kg_G} {l1 : Int32} {res : Int32} (h : fX11_castSet N G l1 = some res) : kv_M Z (e + 0) kMX11_castSet [.ref 28, .int l1] (kg_w G) (some (.int res)) (kg_w G) := by
  refine kv_M_of (ls := [some (.ref 28), some (.int l1), none, none]) (by decide) (Nat.le_of_ble_eq_true rfl) rfl ?_
  unfold fX11_castSet at h
  refine kr_iconst (v := 0) dX11_castSet_0 (by decide) ?_
  refine kr_istore_n (i := 2) (ls' := [some (.ref 28), some (.int l1), some (.int 0), none]) dX11_castSet_1 rfl (Nat.le_of_ble_eq_true rfl) rfl ?_
  refine kr_iconst (v := 0) dX11_castSet_2 (by decide) ?_
  refine kr_istore_n (i := 3) (ls' := [some (.ref 28), some (.int l1), some (.int 0), some (.int 0)]) dX11_castSet_3 rfl (Nat.le_of_ble_eq_true rfl) rfl ?_
  exact RX11_castSet_4 e N _ _ _ _ h
set_option maxRecDepth 20000 in
set_option maxHeartbeats 4000000 in
theorem RX11_busySet_4 {Z : kv_Z} (e : Nat) {N : Nat} {G : kg_G} : ∀ (n : Nat) (l1 : Int32) (l2 : Int32) (l3 : Int32) (res : Int32), fX11_busySet_4 N G n l1 l2 l3 = some res → kv_V Z (e + 2) kMX11_busySet 4 [some (.ref 28), some (.int l1), some (.int l2), some (.int l3)] [] (kg_w G) (some (.int res)) (kg_w G) := by
  intro n
  induction n with
  | zero => intro l1 l2 l3 res h; exact absurd h (by intro z; cases z)
  | succ n ih =>
    intro l1 l2 l3 res h
    have hk4 := ih
    rw [fX11_busySet_4] at h
    refine kr_iload_n dX11_busySet_4 rfl ?_
    refine kr_aload_n dX11_busySet_5 rfl ?_
    refine kx_g28_3 (G.1 28 3) rfl kw4_140 dX11_busySet_6 ?_
    refine kr_icmp_ge (tgt := 44) dX11_busySet_9 rfl (fun c9 => ?_) (fun c9 => ?_)
    · rw [if_pos c9] at h
      refine kr_iload_n dX11_busySet_44 rfl ?_
      cases h
      exact kr_iret rfl dX11_busySet_45
    · rw [if_neg c9] at h
      refine kr_iload_n dX11_busySet_12 rfl ?_
      refine kr_aload_n dX11_busySet_13 rfl ?_
      refine kx_g28_14 kw4_151 dX11_busySet_14 ?_
      refine kr_iload_n dX11_busySet_17 rfl ?_
      obtain ⟨v1, hv1, h⟩ := Option.bind_eq_some_iff.mp h
      refine kx_a32 (G.2.1 32) rfl hv1 dX11_busySet_18 ?_
      refine kr_iload_n dX11_busySet_19 rfl ?_
      refine kr_ishr dX11_busySet_20 ?_
      refine kr_iconst (v := 1) dX11_busySet_21 (by decide) ?_
      refine kr_iand dX11_busySet_22 ?_
      refine kr_iconst (v := 1) dX11_busySet_23 (by decide) ?_
      refine kr_icmp_ne (tgt := 35) dX11_busySet_24 rfl (fun c24 => ?_) (fun c24 => ?_)
      · rw [if_pos c24] at h
        refine kr_aload_n dX11_busySet_27 rfl ?_
        refine kr_iload_n dX11_busySet_28 rfl ?_
        obtain ⟨v2, hv2, h⟩ := Option.bind_eq_some_iff.mp h
        refine kr_callVi (M' := kMX11_busyBy) (a := 28) (As := [.int l3]) (st := [.int l2]) (RX11_busyBy (e + 0) hv2) koX11_busyBy rfl rfl rfl kw5_112 kw5_114 kws_31 rfl (Nat.le_of_ble_eq_true rfl) dX11_busySet_29 ?_
        refine kr_goto (tgt := 36) dX11_busySet_32 rfl ?_
        refine kr_ior dX11_busySet_36 ?_
        refine kr_istore_n (i := 2) (ls' := [some (.ref 28), some (.int l1), some (.int (l2 ||| v2)), some (.int l3)]) dX11_busySet_37 rfl (Nat.le_of_ble_eq_true rfl) rfl ?_
        refine kr_iinc (v := l3 + 1) (ls' := [some (.ref 28), some (.int l1), some (.int (l2 ||| v2)), some (.int (l3 + 1))]) dX11_busySet_38 rfl rfl (Nat.le_of_ble_eq_true rfl) rfl ?_
        refine kr_goto (tgt := 4) dX11_busySet_41 rfl ?_
        exact hk4 _ _ _ _ h
      · rw [if_neg c24] at h
        refine kr_iconst (v := 0) dX11_busySet_35 (by decide) ?_
        refine kr_ior dX11_busySet_36 ?_
        refine kr_istore_n (i := 2) (ls' := [some (.ref 28), some (.int l1), some (.int (l2 ||| 0)), some (.int l3)]) dX11_busySet_37 rfl (Nat.le_of_ble_eq_true rfl) rfl ?_
        refine kr_iinc (v := l3 + 1) (ls' := [some (.ref 28), some (.int l1), some (.int (l2 ||| 0)), some (.int (l3 + 1))]) dX11_busySet_38 rfl rfl (Nat.le_of_ble_eq_true rfl) rfl ?_
        refine kr_goto (tgt := 4) dX11_busySet_41 rfl ?_
        exact hk4 _ _ _ _ h
set_option maxRecDepth 20000 in
set_option maxHeartbeats 4000000 in
theorem RX11_busySet {Z : kv_Z} (e : Nat) {N : Nat} {G : kg_G} {l1 : Int32} {res : Int32} (h : fX11_busySet N G l1 = some res) : kv_M Z (e + 2) kMX11_busySet [.ref 28, .int l1] (kg_w G) (some (.int res)) (kg_w G) := by
  refine kv_M_of (ls := [some (.ref 28), some (.int l1), none, none]) (by decide) (Nat.le_of_ble_eq_true rfl) rfl ?_
  unfold fX11_busySet at h
  refine kr_iconst (v := 0) dX11_busySet_0 (by decide) ?_
  refine kr_istore_n (i := 2) (ls' := [some (.ref 28), some (.int l1), some (.int 0), none]) dX11_busySet_1 rfl (Nat.le_of_ble_eq_true rfl) rfl ?_
  refine kr_iconst (v := 0) dX11_busySet_2 (by decide) ?_
  refine kr_istore_n (i := 3) (ls' := [some (.ref 28), some (.int l1), some (.int 0), some (.int 0)]) dX11_busySet_3 rfl (Nat.le_of_ble_eq_true rfl) rfl ?_
  exact RX11_busySet_4 e N _ _ _ _ h
set_option maxRecDepth 20000 in
set_option maxHeartbeats 4000000 in
theorem RX11_strongsOf_79 {Z : kv_Z} (e : Nat) {N : Nat} {G : kg_G} {k4 : Int32 → Int32 → Int32 → Option (Int32)} {k16 : Int32 → Int32 → Int32 → Int32 → Int32 → Option (Int32)} (hk4 : ∀ (l1 : Int32) (l2 : Int32) (l3 : Int32) (res : Int32), k4 l1 l2 l3 = some res → kv_V Z (e + 1) kMX11_strongsOf 4 [some (.ref 28), some (.int l1), some (.int l2), some (.int l3), none, none, none] [] (kg_w G) (some (.int res)) (kg_w G)) (hk16 : ∀ (l1 : Int32) (l2 : Int32) (l3 : Int32) (l4 : Int32) (l5 : Int32) (res : Int32), k16 l1 l2 l3 l4 l5 = some res → kv_V Z (e + 1) kMX11_strongsOf 16 [some (.ref 28), some (.int l1), some (.int l2), some (.int l3), some (.int l4), some (.int l5), none] [] (kg_w G) (some (.int res)) (kg_w G)) : ∀ (l1 : Int32) (l2 : Int32) (l3 : Int32) (l5 : Int32) (s0 : Int32) (s1 : Int32) (res : Int32), fX11_strongsOf_79 N G k4 k16 l1 l2 l3 l5 s0 s1 = some res → kv_V Z (e + 1) kMX11_strongsOf 79 [some (.ref 28), some (.int l1), some (.int l2), some (.int l3), none, some (.int l5), none] [.int s1, .int s0] (kg_w G) (some (.int res)) (kg_w G) := by
  intro l1 l2 l3 l5 s0 s1 res h
  unfold fX11_strongsOf_79 at h
  refine kr_icmp_ne (tgt := 86) dX11_strongsOf_79 rfl (fun c79 => ?_) (fun c79 => ?_)
  · rw [if_pos c79] at h
    refine kr_iconst (v := 1) dX11_strongsOf_82 (by decide) ?_
    refine kr_goto (tgt := 87) dX11_strongsOf_83 rfl ?_
    refine kr_istore (ls' := [some (.ref 28), some (.int l1), some (.int l2), some (.int l3), some (.int 1), some (.int l5), none]) dX11_strongsOf_87 (Nat.le_of_ble_eq_true rfl) rfl ?_
    refine kr_iinc (v := l5 + 3) (ls' := [some (.ref 28), some (.int l1), some (.int l2), some (.int l3), some (.int 1), some (.int (l5 + 3)), none]) dX11_strongsOf_89 rfl rfl (Nat.le_of_ble_eq_true rfl) rfl ?_
    refine kr_goto (tgt := 16) dX11_strongsOf_92 rfl ?_
    exact hk16 _ _ _ _ _ _ h
  · rw [if_neg c79] at h
    refine kr_iconst (v := 0) dX11_strongsOf_86 (by decide) ?_
    refine kr_istore (ls' := [some (.ref 28), some (.int l1), some (.int l2), some (.int l3), some (.int 0), some (.int l5), none]) dX11_strongsOf_87 (Nat.le_of_ble_eq_true rfl) rfl ?_
    refine kr_iinc (v := l5 + 3) (ls' := [some (.ref 28), some (.int l1), some (.int l2), some (.int l3), some (.int 0), some (.int (l5 + 3)), none]) dX11_strongsOf_89 rfl rfl (Nat.le_of_ble_eq_true rfl) rfl ?_
    refine kr_goto (tgt := 16) dX11_strongsOf_92 rfl ?_
    exact hk16 _ _ _ _ _ _ h
set_option maxRecDepth 20000 in
set_option maxHeartbeats 4000000 in
theorem RX11_strongsOf_16 {Z : kv_Z} (e : Nat) {N : Nat} {G : kg_G} {k4 : Int32 → Int32 → Int32 → Option (Int32)} (hk4 : ∀ (l1 : Int32) (l2 : Int32) (l3 : Int32) (res : Int32), k4 l1 l2 l3 = some res → kv_V Z (e + 1) kMX11_strongsOf 4 [some (.ref 28), some (.int l1), some (.int l2), some (.int l3), none, none, none] [] (kg_w G) (some (.int res)) (kg_w G)) : ∀ (n : Nat) (l1 : Int32) (l2 : Int32) (l3 : Int32) (l4 : Int32) (l5 : Int32) (res : Int32), fX11_strongsOf_16 N G k4 n l1 l2 l3 l4 l5 = some res → kv_V Z (e + 1) kMX11_strongsOf 16 [some (.ref 28), some (.int l1), some (.int l2), some (.int l3), some (.int l4), some (.int l5), none] [] (kg_w G) (some (.int res)) (kg_w G) := by
  intro n
  induction n with
  | zero => intro l1 l2 l3 l4 l5 res h; exact absurd h (by intro z; cases z)
  | succ n ih =>
    intro l1 l2 l3 l4 l5 res h
    have hk16 := ih
    rw [fX11_strongsOf_16] at h
    refine kr_iload dX11_strongsOf_16 rfl ?_
    refine kr_iconst (v := 3) dX11_strongsOf_18 (by decide) ?_
    refine kr_aload_n dX11_strongsOf_19 rfl ?_
    refine kx_g28_23 (G.1 28 23) rfl kw4_160 dX11_strongsOf_20 ?_
    refine kr_imul dX11_strongsOf_23 ?_
    refine kr_icmp_ge (tgt := 95) dX11_strongsOf_24 rfl (fun c24 => ?_) (fun c24 => ?_)
    · rw [if_pos c24] at h
      refine kr_iload_n dX11_strongsOf_95 rfl ?_
      refine kr_iload dX11_strongsOf_96 rfl ?_
      refine kr_if_eq (tgt := 107) dX11_strongsOf_98 rfl (fun c98 => ?_) (fun c98 => ?_)
      · rw [if_pos c98] at h
        refine kr_iconst (v := 0) dX11_strongsOf_107 (by decide) ?_
        refine kr_ior dX11_strongsOf_108 ?_
        refine kr_istore_n (i := 2) (ls' := [some (.ref 28), some (.int l1), some (.int (l2 ||| 0)), some (.int l3), some (.int l4), some (.int l5), none]) dX11_strongsOf_109 rfl (Nat.le_of_ble_eq_true rfl) rfl ?_
        refine kr_iinc (v := l3 + 1) (ls' := [some (.ref 28), some (.int l1), some (.int (l2 ||| 0)), some (.int (l3 + 1)), some (.int l4), some (.int l5), none]) dX11_strongsOf_110 rfl rfl (Nat.le_of_ble_eq_true rfl) rfl ?_
        refine kr_goto (tgt := 4) dX11_strongsOf_113 rfl ?_
        refine kv_loc (ls' := [some (.ref 28), some (.int l1), some (.int (l2 ||| 0)), some (.int (l3 + 1)), none, none, none]) (And.intro rfl (And.intro rfl (And.intro rfl (And.intro rfl trivial)))) ?_
        exact hk4 _ _ _ _ h
      · rw [if_neg c98] at h
        refine kr_iconst (v := 1) dX11_strongsOf_101 (by decide) ?_
        refine kr_iload_n dX11_strongsOf_102 rfl ?_
        refine kr_ishl dX11_strongsOf_103 ?_
        refine kr_goto (tgt := 108) dX11_strongsOf_104 rfl ?_
        refine kr_ior dX11_strongsOf_108 ?_
        refine kr_istore_n (i := 2) (ls' := [some (.ref 28), some (.int l1), some (.int (l2 ||| (1 <<< (l3 &&& 31)))), some (.int l3), some (.int l4), some (.int l5), none]) dX11_strongsOf_109 rfl (Nat.le_of_ble_eq_true rfl) rfl ?_
        refine kr_iinc (v := l3 + 1) (ls' := [some (.ref 28), some (.int l1), some (.int (l2 ||| (1 <<< (l3 &&& 31)))), some (.int (l3 + 1)), some (.int l4), some (.int l5), none]) dX11_strongsOf_110 rfl rfl (Nat.le_of_ble_eq_true rfl) rfl ?_
        refine kr_goto (tgt := 4) dX11_strongsOf_113 rfl ?_
        refine kv_loc (ls' := [some (.ref 28), some (.int l1), some (.int (l2 ||| (1 <<< (l3 &&& 31)))), some (.int (l3 + 1)), none, none, none]) (And.intro rfl (And.intro rfl (And.intro rfl (And.intro rfl trivial)))) ?_
        exact hk4 _ _ _ _ h
    · rw [if_neg c24] at h
      refine kr_aload_n dX11_strongsOf_27 rfl ?_
      refine kr_iload_n dX11_strongsOf_28 rfl ?_
      refine kr_aload_n dX11_strongsOf_29 rfl ?_
      refine kx_g28_24 kw4_161 dX11_strongsOf_30 ?_
      refine kr_iload dX11_strongsOf_33 rfl ?_
      refine kr_iconst (v := 1) dX11_strongsOf_35 (by decide) ?_
      refine kr_iadd dX11_strongsOf_36 ?_
      obtain ⟨v1, hv1, h⟩ := Option.bind_eq_some_iff.mp h
      refine kx_a38 (G.2.1 38) rfl hv1 dX11_strongsOf_37 ?_
      obtain ⟨v2, hv2, h⟩ := Option.bind_eq_some_iff.mp h
      refine kr_callVi (M' := kMX11_fitsBy) (a := 28) (As := [.int l3, .int v1]) (st := []) (RX11_fitsBy (e + 0) hv2) koX11_fitsBy rfl rfl rfl kw5_100 kw5_102 kws_28 rfl (Nat.le_of_ble_eq_true rfl) dX11_strongsOf_38 ?_
      refine kr_istore (ls' := [some (.ref 28), some (.int l1), some (.int l2), some (.int l3), some (.int l4), some (.int l5), some (.int v2)]) dX11_strongsOf_41 (Nat.le_of_ble_eq_true rfl) rfl ?_
      refine kr_iload dX11_strongsOf_43 rfl ?_
      refine kr_if_eq (tgt := 86) dX11_strongsOf_45 rfl (fun c45 => ?_) (fun c45 => ?_)
      · rw [if_pos c45] at h
        refine kr_iconst (v := 0) dX11_strongsOf_86 (by decide) ?_
        refine kr_istore (ls' := [some (.ref 28), some (.int l1), some (.int l2), some (.int l3), some (.int 0), some (.int l5), some (.int v2)]) dX11_strongsOf_87 (Nat.le_of_ble_eq_true rfl) rfl ?_
        refine kr_iinc (v := l5 + 3) (ls' := [some (.ref 28), some (.int l1), some (.int l2), some (.int l3), some (.int 0), some (.int (l5 + 3)), some (.int v2)]) dX11_strongsOf_89 rfl rfl (Nat.le_of_ble_eq_true rfl) rfl ?_
        refine kr_goto (tgt := 16) dX11_strongsOf_92 rfl ?_
        refine kv_loc (ls' := [some (.ref 28), some (.int l1), some (.int l2), some (.int l3), some (.int 0), some (.int (l5 + 3)), none]) (And.intro rfl (And.intro rfl (And.intro rfl (And.intro rfl (And.intro rfl (And.intro rfl trivial)))))) ?_
        exact hk16 _ _ _ _ _ _ h
      · rw [if_neg c45] at h
        refine kr_aload_n dX11_strongsOf_48 rfl ?_
        refine kx_g28_24 kw4_161 dX11_strongsOf_49 ?_
        refine kr_iload dX11_strongsOf_52 rfl ?_
        obtain ⟨v3, hv3, h⟩ := Option.bind_eq_some_iff.mp h
        refine kx_a38 (G.2.1 38) rfl hv3 dX11_strongsOf_54 ?_
        refine kr_iload_n dX11_strongsOf_55 rfl ?_
        refine kr_icmp_ne (tgt := 82) dX11_strongsOf_56 rfl (fun c56 => ?_) (fun c56 => ?_)
        · rw [if_pos c56] at h
          refine kr_iload dX11_strongsOf_59 rfl ?_
          refine kr_aload_n dX11_strongsOf_61 rfl ?_
          refine kx_g28_24 kw4_161 dX11_strongsOf_62 ?_
          refine kr_iload dX11_strongsOf_65 rfl ?_
          refine kr_iconst (v := 2) dX11_strongsOf_67 (by decide) ?_
          refine kr_iadd dX11_strongsOf_68 ?_
          obtain ⟨v4, hv4, h⟩ := Option.bind_eq_some_iff.mp h
          refine kx_a38 (G.2.1 38) rfl hv4 dX11_strongsOf_69 ?_
          refine kr_iconst (v := 1) dX11_strongsOf_70 (by decide) ?_
          refine kr_icmp_ne (tgt := 78) dX11_strongsOf_71 rfl (fun c71 => ?_) (fun c71 => ?_)
          · rw [if_pos c71] at h
            refine kr_iconst (v := 1) dX11_strongsOf_74 (by decide) ?_
            refine kr_goto (tgt := 79) dX11_strongsOf_75 rfl ?_
            refine kv_loc (ls' := [some (.ref 28), some (.int l1), some (.int l2), some (.int l3), none, some (.int l5), none]) (And.intro rfl (And.intro rfl (And.intro rfl (And.intro rfl (And.intro rfl trivial))))) ?_
            exact RX11_strongsOf_79 e hk4 hk16 _ _ _ _ _ _ _ h
          · rw [if_neg c71] at h
            refine kr_iconst (v := 0) dX11_strongsOf_78 (by decide) ?_
            refine kv_loc (ls' := [some (.ref 28), some (.int l1), some (.int l2), some (.int l3), none, some (.int l5), none]) (And.intro rfl (And.intro rfl (And.intro rfl (And.intro rfl (And.intro rfl trivial))))) ?_
            exact RX11_strongsOf_79 e hk4 hk16 _ _ _ _ _ _ _ h
        · rw [if_neg c56] at h
          refine kr_iconst (v := 1) dX11_strongsOf_82 (by decide) ?_
          refine kr_goto (tgt := 87) dX11_strongsOf_83 rfl ?_
          refine kr_istore (ls' := [some (.ref 28), some (.int l1), some (.int l2), some (.int l3), some (.int 1), some (.int l5), some (.int v2)]) dX11_strongsOf_87 (Nat.le_of_ble_eq_true rfl) rfl ?_
          refine kr_iinc (v := l5 + 3) (ls' := [some (.ref 28), some (.int l1), some (.int l2), some (.int l3), some (.int 1), some (.int (l5 + 3)), some (.int v2)]) dX11_strongsOf_89 rfl rfl (Nat.le_of_ble_eq_true rfl) rfl ?_
          refine kr_goto (tgt := 16) dX11_strongsOf_92 rfl ?_
          refine kv_loc (ls' := [some (.ref 28), some (.int l1), some (.int l2), some (.int l3), some (.int 1), some (.int (l5 + 3)), none]) (And.intro rfl (And.intro rfl (And.intro rfl (And.intro rfl (And.intro rfl (And.intro rfl trivial)))))) ?_
          exact hk16 _ _ _ _ _ _ h
set_option maxRecDepth 20000 in
set_option maxHeartbeats 4000000 in
theorem RX11_strongsOf_4 {Z : kv_Z} (e : Nat) {N : Nat} {G : kg_G} : ∀ (n : Nat) (l1 : Int32) (l2 : Int32) (l3 : Int32) (res : Int32), fX11_strongsOf_4 N G n l1 l2 l3 = some res → kv_V Z (e + 1) kMX11_strongsOf 4 [some (.ref 28), some (.int l1), some (.int l2), some (.int l3), none, none, none] [] (kg_w G) (some (.int res)) (kg_w G) := by
  intro n
  induction n with
  | zero => intro l1 l2 l3 res h; exact absurd h (by intro z; cases z)
  | succ n ih =>
    intro l1 l2 l3 res h
    have hk4 := ih
    rw [fX11_strongsOf_4] at h
    refine kr_iload_n dX11_strongsOf_4 rfl ?_
    refine kr_bipush (v := 10) dX11_strongsOf_5 (by decide) ?_
    refine kr_icmp_ge (tgt := 116) dX11_strongsOf_7 rfl (fun c7 => ?_) (fun c7 => ?_)
    · rw [if_pos c7] at h
      refine kr_iload_n dX11_strongsOf_116 rfl ?_
      cases h
      exact kr_iret rfl dX11_strongsOf_117
    · rw [if_neg c7] at h
      refine kr_iconst (v := 1) dX11_strongsOf_10 (by decide) ?_
      refine kr_istore (ls' := [some (.ref 28), some (.int l1), some (.int l2), some (.int l3), some (.int 1), none, none]) dX11_strongsOf_11 (Nat.le_of_ble_eq_true rfl) rfl ?_
      refine kr_iconst (v := 0) dX11_strongsOf_13 (by decide) ?_
      refine kr_istore (ls' := [some (.ref 28), some (.int l1), some (.int l2), some (.int l3), some (.int 1), some (.int 0), none]) dX11_strongsOf_14 (Nat.le_of_ble_eq_true rfl) rfl ?_
      exact RX11_strongsOf_16 e hk4 N _ _ _ _ _ _ h
set_option maxRecDepth 20000 in
set_option maxHeartbeats 4000000 in
theorem RX11_strongsOf {Z : kv_Z} (e : Nat) {N : Nat} {G : kg_G} {l1 : Int32} {res : Int32} (h : fX11_strongsOf N G l1 = some res) : kv_M Z (e + 1) kMX11_strongsOf [.ref 28, .int l1] (kg_w G) (some (.int res)) (kg_w G) := by
  refine kv_M_of (ls := [some (.ref 28), some (.int l1), none, none, none, none, none]) (by decide) (Nat.le_of_ble_eq_true rfl) rfl ?_
  unfold fX11_strongsOf at h
  refine kr_iconst (v := 0) dX11_strongsOf_0 (by decide) ?_
  refine kr_istore_n (i := 2) (ls' := [some (.ref 28), some (.int l1), some (.int 0), none, none, none, none]) dX11_strongsOf_1 rfl (Nat.le_of_ble_eq_true rfl) rfl ?_
  refine kr_iconst (v := 0) dX11_strongsOf_2 (by decide) ?_
  refine kr_istore_n (i := 3) (ls' := [some (.ref 28), some (.int l1), some (.int 0), some (.int 0), none, none, none]) dX11_strongsOf_3 rfl (Nat.le_of_ble_eq_true rfl) rfl ?_
  exact RX11_strongsOf_4 e N _ _ _ _ h
set_option maxRecDepth 20000 in
set_option maxHeartbeats 4000000 in
theorem RX11_tryOf_111 {Z : kv_Z} (e : Nat) {N : Nat} {G : kg_G} {k15 : Int32 → Int32 → Int32 → Int32 → Option (Int32)} (hk15 : ∀ (l2 : Int32) (l3 : Int32) (l4 : Int32) (l5 : Int32) (res : Int32), k15 l2 l3 l4 l5 = some res → kv_V Z (e + 2) kMX11_tryOf 15 [some (.ref 28), none, some (.int l2), some (.int l3), some (.int l4), some (.int l5), none, none, none] [] (kg_w G) (some (.int res)) (kg_w G)) : ∀ (l2 : Int32) (l4 : Int32) (l5 : Int32) (l8 : Int32) (s0 : Int32) (res : Int32), fX11_tryOf_111 N G k15 l2 l4 l5 l8 s0 = some res → kv_V Z (e + 2) kMX11_tryOf 111 [some (.ref 28), none, some (.int l2), none, some (.int l4), some (.int l5), none, none, some (.int l8)] [.int s0] (kg_w G) (some (.int res)) (kg_w G) := by
  intro l2 l4 l5 l8 s0 res h
  unfold fX11_tryOf_111 at h
  refine kr_istore_n (i := 3) (ls' := [some (.ref 28), none, some (.int l2), some (.int s0), some (.int l4), some (.int l5), none, none, some (.int l8)]) dX11_tryOf_111 rfl (Nat.le_of_ble_eq_true rfl) rfl ?_
  refine kr_iload dX11_tryOf_112 rfl ?_
  refine kr_iload dX11_tryOf_114 rfl ?_
  refine kr_icmp_ge (tgt := 124) dX11_tryOf_116 rfl (fun c116 => ?_) (fun c116 => ?_)
  · rw [if_pos c116] at h
    refine kr_iload dX11_tryOf_124 rfl ?_
    refine kr_istore (ls' := [some (.ref 28), none, some (.int l2), some (.int s0), some (.int l4), some (.int l5), none, none, some (.int l8)]) dX11_tryOf_126 (Nat.le_of_ble_eq_true rfl) rfl ?_
    refine kr_iinc (v := l5 + 1) (ls' := [some (.ref 28), none, some (.int l2), some (.int s0), some (.int l4), some (.int (l5 + 1)), none, none, some (.int l8)]) dX11_tryOf_128 rfl rfl (Nat.le_of_ble_eq_true rfl) rfl ?_
    refine kr_goto (tgt := 15) dX11_tryOf_131 rfl ?_
    refine kv_loc (ls' := [some (.ref 28), none, some (.int l2), some (.int s0), some (.int l4), some (.int (l5 + 1)), none, none, none]) (And.intro rfl (And.intro rfl (And.intro rfl (And.intro rfl (And.intro rfl trivial))))) ?_
    exact hk15 _ _ _ _ _ h
  · rw [if_neg c116] at h
    refine kr_iload dX11_tryOf_119 rfl ?_
    refine kr_goto (tgt := 126) dX11_tryOf_121 rfl ?_
    refine kr_istore (ls' := [some (.ref 28), none, some (.int l2), some (.int s0), some (.int l8), some (.int l5), none, none, some (.int l8)]) dX11_tryOf_126 (Nat.le_of_ble_eq_true rfl) rfl ?_
    refine kr_iinc (v := l5 + 1) (ls' := [some (.ref 28), none, some (.int l2), some (.int s0), some (.int l8), some (.int (l5 + 1)), none, none, some (.int l8)]) dX11_tryOf_128 rfl rfl (Nat.le_of_ble_eq_true rfl) rfl ?_
    refine kr_goto (tgt := 15) dX11_tryOf_131 rfl ?_
    refine kv_loc (ls' := [some (.ref 28), none, some (.int l2), some (.int s0), some (.int l8), some (.int (l5 + 1)), none, none, none]) (And.intro rfl (And.intro rfl (And.intro rfl (And.intro rfl (And.intro rfl trivial))))) ?_
    exact hk15 _ _ _ _ _ h
set_option maxRecDepth 20000 in
set_option maxHeartbeats 4000000 in
theorem RX11_tryOf_96 {Z : kv_Z} (e : Nat) {N : Nat} {G : kg_G} {k15 : Int32 → Int32 → Int32 → Int32 → Option (Int32)} (hk15 : ∀ (l2 : Int32) (l3 : Int32) (l4 : Int32) (l5 : Int32) (res : Int32), k15 l2 l3 l4 l5 = some res → kv_V Z (e + 2) kMX11_tryOf 15 [some (.ref 28), none, some (.int l2), some (.int l3), some (.int l4), some (.int l5), none, none, none] [] (kg_w G) (some (.int res)) (kg_w G)) : ∀ (l2 : Int32) (l3 : Int32) (l4 : Int32) (l5 : Int32) (s0 : Int32) (res : Int32), fX11_tryOf_96 N G k15 l2 l3 l4 l5 s0 = some res → kv_V Z (e + 2) kMX11_tryOf 96 [some (.ref 28), none, some (.int l2), some (.int l3), some (.int l4), some (.int l5), none, none, none] [.int s0] (kg_w G) (some (.int res)) (kg_w G) := by
  intro l2 l3 l4 l5 s0 res h
  unfold fX11_tryOf_96 at h
  refine kr_istore (ls' := [some (.ref 28), none, some (.int l2), some (.int l3), some (.int l4), some (.int l5), none, none, some (.int s0)]) dX11_tryOf_96 (Nat.le_of_ble_eq_true rfl) rfl ?_
  refine kr_iload dX11_tryOf_98 rfl ?_
  refine kr_iload dX11_tryOf_100 rfl ?_
  refine kr_icmp_ge (tgt := 110) dX11_tryOf_102 rfl (fun c102 => ?_) (fun c102 => ?_)
  · rw [if_pos c102] at h
    refine kr_iload_n dX11_tryOf_110 rfl ?_
    refine kv_loc (ls' := [some (.ref 28), none, some (.int l2), none, some (.int l4), some (.int l5), none, none, some (.int s0)]) (And.intro rfl (And.intro rfl (And.intro rfl (And.intro rfl (And.intro rfl trivial))))) ?_
    exact RX11_tryOf_111 e hk15 _ _ _ _ _ _ h
  · rw [if_neg c102] at h
    refine kr_iload dX11_tryOf_105 rfl ?_
    refine kr_goto (tgt := 111) dX11_tryOf_107 rfl ?_
    refine kv_loc (ls' := [some (.ref 28), none, some (.int l2), none, some (.int l4), some (.int l5), none, none, some (.int s0)]) (And.intro rfl (And.intro rfl (And.intro rfl (And.intro rfl (And.intro rfl trivial))))) ?_
    exact RX11_tryOf_111 e hk15 _ _ _ _ _ _ h
set_option maxRecDepth 20000 in
set_option maxHeartbeats 4000000 in
theorem RX11_tryOf_34 {Z : kv_Z} (e : Nat) {N : Nat} {G : kg_G} {k15 : Int32 → Int32 → Int32 → Int32 → Option (Int32)} (hk15 : ∀ (l2 : Int32) (l3 : Int32) (l4 : Int32) (l5 : Int32) (res : Int32), k15 l2 l3 l4 l5 = some res → kv_V Z (e + 2) kMX11_tryOf 15 [some (.ref 28), none, some (.int l2), some (.int l3), some (.int l4), some (.int l5), none, none, none] [] (kg_w G) (some (.int res)) (kg_w G)) : ∀ (n : Nat) (l2 : Int32) (l3 : Int32) (l4 : Int32) (l5 : Int32) (l6 : Int32) (l7 : Int32) (res : Int32), fX11_tryOf_34 N G k15 n l2 l3 l4 l5 l6 l7 = some res → kv_V Z (e + 2) kMX11_tryOf 34 [some (.ref 28), none, some (.int l2), some (.int l3), some (.int l4), some (.int l5), some (.int l6), some (.int l7), none] [] (kg_w G) (some (.int res)) (kg_w G) := by
  intro n
  induction n with
  | zero => intro l2 l3 l4 l5 l6 l7 res h; exact absurd h (by intro z; cases z)
  | succ n ih =>
    intro l2 l3 l4 l5 l6 l7 res h
    have hk34 := ih
    rw [fX11_tryOf_34] at h
    refine kr_iload dX11_tryOf_34 rfl ?_
    refine kr_bipush (v := 10) dX11_tryOf_36 (by decide) ?_
    refine kr_icmp_ge (tgt := 73) dX11_tryOf_38 rfl (fun c38 => ?_) (fun c38 => ?_)
    · rw [if_pos c38] at h
      refine kr_iload_n dX11_tryOf_73 rfl ?_
      obtain ⟨v1, hv1, h⟩ := Option.bind_eq_some_iff.mp h
      refine kr_callSi (M' := kMX11_ones) (As := [.int l2]) (st := []) (RX11_ones (e + 1) hv1) koX11_ones rfl kw5_89 kw5_90 rfl (Nat.le_of_ble_eq_true rfl) dX11_tryOf_74 ?_
      refine kr_iload dX11_tryOf_77 rfl ?_
      refine kr_isub dX11_tryOf_79 ?_
      refine kr_istore (ls' := [some (.ref 28), none, some (.int l2), some (.int l3), some (.int l4), some (.int l5), some (.int l6), some (.int (v1 - l6)), none]) dX11_tryOf_80 (Nat.le_of_ble_eq_true rfl) rfl ?_
      refine kr_iload dX11_tryOf_82 rfl ?_
      refine kr_iload dX11_tryOf_84 rfl ?_
      refine kr_icmp_le (tgt := 94) dX11_tryOf_86 rfl (fun c86 => ?_) (fun c86 => ?_)
      · rw [if_pos c86] at h
        refine kr_iload dX11_tryOf_94 rfl ?_
        refine kv_loc (ls' := [some (.ref 28), none, some (.int l2), some (.int l3), some (.int l4), some (.int l5), none, none, none]) (And.intro rfl (And.intro rfl (And.intro rfl (And.intro rfl (And.intro rfl trivial))))) ?_
        exact RX11_tryOf_96 e hk15 _ _ _ _ _ _ h
      · rw [if_neg c86] at h
        refine kr_iload dX11_tryOf_89 rfl ?_
        refine kr_goto (tgt := 96) dX11_tryOf_91 rfl ?_
        refine kv_loc (ls' := [some (.ref 28), none, some (.int l2), some (.int l3), some (.int l4), some (.int l5), none, none, none]) (And.intro rfl (And.intro rfl (And.intro rfl (And.intro rfl (And.intro rfl trivial))))) ?_
        exact RX11_tryOf_96 e hk15 _ _ _ _ _ _ h
    · rw [if_neg c38] at h
      refine kr_iload dX11_tryOf_41 rfl ?_
      refine kr_aload_n dX11_tryOf_43 rfl ?_
      refine kr_iload dX11_tryOf_44 rfl ?_
      refine kr_iload dX11_tryOf_46 rfl ?_
      obtain ⟨v2, hv2, h⟩ := Option.bind_eq_some_iff.mp h
      refine kr_callVi (M' := kMX11_fitsBy) (a := 28) (As := [.int l7, .int l5]) (st := [.int l6]) (RX11_fitsBy (e + 1) hv2) koX11_fitsBy rfl rfl rfl kw5_100 kw5_102 kws_28 rfl (Nat.le_of_ble_eq_true rfl) dX11_tryOf_48 ?_
      refine kr_if_eq (tgt := 63) dX11_tryOf_51 rfl (fun c51 => ?_) (fun c51 => ?_)
      · rw [if_pos c51] at h
        refine kr_iconst (v := 0) dX11_tryOf_63 (by decide) ?_
        refine kr_iadd dX11_tryOf_64 ?_
        refine kr_istore (ls' := [some (.ref 28), none, some (.int l2), some (.int l3), some (.int l4), some (.int l5), some (.int (l6 + 0)), some (.int l7), none]) dX11_tryOf_65 (Nat.le_of_ble_eq_true rfl) rfl ?_
        refine kr_iinc (v := l7 + 1) (ls' := [some (.ref 28), none, some (.int l2), some (.int l3), some (.int l4), some (.int l5), some (.int (l6 + 0)), some (.int (l7 + 1)), none]) dX11_tryOf_67 rfl rfl (Nat.le_of_ble_eq_true rfl) rfl ?_
        refine kr_goto (tgt := 34) dX11_tryOf_70 rfl ?_
        exact hk34 _ _ _ _ _ _ _ h
      · rw [if_neg c51] at h
        refine kr_iload_n dX11_tryOf_54 rfl ?_
        refine kr_iload dX11_tryOf_55 rfl ?_
        refine kr_ishr dX11_tryOf_57 ?_
        refine kr_iconst (v := 1) dX11_tryOf_58 (by decide) ?_
        refine kr_iand dX11_tryOf_59 ?_
        refine kr_goto (tgt := 64) dX11_tryOf_60 rfl ?_
        refine kr_iadd dX11_tryOf_64 ?_
        refine kr_istore (ls' := [some (.ref 28), none, some (.int l2), some (.int l3), some (.int l4), some (.int l5), some (.int (l6 + ((l2 >>> (l7 &&& 31)) &&& 1))), some (.int l7), none]) dX11_tryOf_65 (Nat.le_of_ble_eq_true rfl) rfl ?_
        refine kr_iinc (v := l7 + 1) (ls' := [some (.ref 28), none, some (.int l2), some (.int l3), some (.int l4), some (.int l5), some (.int (l6 + ((l2 >>> (l7 &&& 31)) &&& 1))), some (.int (l7 + 1)), none]) dX11_tryOf_67 rfl rfl (Nat.le_of_ble_eq_true rfl) rfl ?_
        refine kr_goto (tgt := 34) dX11_tryOf_70 rfl ?_
        exact hk34 _ _ _ _ _ _ _ h
set_option maxRecDepth 20000 in
set_option maxHeartbeats 4000000 in
theorem RX11_tryOf_15 {Z : kv_Z} (e : Nat) {N : Nat} {G : kg_G} : ∀ (n : Nat) (l2 : Int32) (l3 : Int32) (l4 : Int32) (l5 : Int32) (res : Int32), fX11_tryOf_15 N G n l2 l3 l4 l5 = some res → kv_V Z (e + 2) kMX11_tryOf 15 [some (.ref 28), none, some (.int l2), some (.int l3), some (.int l4), some (.int l5), none, none, none] [] (kg_w G) (some (.int res)) (kg_w G) := by
  intro n
  induction n with
  | zero => intro l2 l3 l4 l5 res h; exact absurd h (by intro z; cases z)
  | succ n ih =>
    intro l2 l3 l4 l5 res h
    have hk15 := ih
    rw [fX11_tryOf_15] at h
    refine kr_iload dX11_tryOf_15 rfl ?_
    refine kr_aload_n dX11_tryOf_17 rfl ?_
    refine kx_g28_3 (G.1 28 3) rfl kw4_140 dX11_tryOf_18 ?_
    refine kr_icmp_ge (tgt := 134) dX11_tryOf_21 rfl (fun c21 => ?_) (fun c21 => ?_)
    · rw [if_pos c21] at h
      refine kr_iload_n dX11_tryOf_134 rfl ?_
      cases h
      exact kr_iret rfl dX11_tryOf_135
    · rw [if_neg c21] at h
      refine kr_iload_n dX11_tryOf_24 rfl ?_
      refine kr_if_eq (tgt := 134) dX11_tryOf_25 rfl (fun c25 => ?_) (fun c25 => ?_)
      · rw [if_pos c25] at h
        refine kr_iload_n dX11_tryOf_134 rfl ?_
        cases h
        exact kr_iret rfl dX11_tryOf_135
      · rw [if_neg c25] at h
        refine kr_iconst (v := 0) dX11_tryOf_28 (by decide) ?_
        refine kr_istore (ls' := [some (.ref 28), none, some (.int l2), some (.int l3), some (.int l4), some (.int l5), some (.int 0), none, none]) dX11_tryOf_29 (Nat.le_of_ble_eq_true rfl) rfl ?_
        refine kr_iconst (v := 0) dX11_tryOf_31 (by decide) ?_
        refine kr_istore (ls' := [some (.ref 28), none, some (.int l2), some (.int l3), some (.int l4), some (.int l5), some (.int 0), some (.int 0), none]) dX11_tryOf_32 (Nat.le_of_ble_eq_true rfl) rfl ?_
        exact RX11_tryOf_34 e hk15 N _ _ _ _ _ _ _ h
set_option maxRecDepth 20000 in
set_option maxHeartbeats 4000000 in
theorem RX11_tryOf {Z : kv_Z} (e : Nat) {N : Nat} {G : kg_G} {l1 : Int32} {res : Int32} (h : fX11_tryOf N G l1 = some res) : kv_M Z (e + 2) kMX11_tryOf [.ref 28, .int l1] (kg_w G) (some (.int res)) (kg_w G) := by
  refine kv_M_of (ls := [some (.ref 28), some (.int l1), none, none, none, none, none, none, none]) (by decide) (Nat.le_of_ble_eq_true rfl) rfl ?_
  unfold fX11_tryOf at h
  refine kr_aload_n dX11_tryOf_0 rfl ?_
  refine kr_iload_n dX11_tryOf_1 rfl ?_
  obtain ⟨v1, hv1, h⟩ := Option.bind_eq_some_iff.mp h
  refine kr_callVi (M' := kMX11_strongsOf) (a := 28) (As := [.int l1]) (st := []) (RX11_strongsOf (e + 0) hv1) koX11_strongsOf rfl rfl rfl kw5_145 kw5_147 kws_37 rfl (Nat.le_of_ble_eq_true rfl) dX11_tryOf_2 ?_
  refine kr_istore_n (i := 2) (ls' := [some (.ref 28), some (.int l1), some (.int v1), none, none, none, none, none, none]) dX11_tryOf_5 rfl (Nat.le_of_ble_eq_true rfl) rfl ?_
  refine kr_iconst (v := (-1)) dX11_tryOf_6 (by decide) ?_
  refine kr_istore_n (i := 3) (ls' := [some (.ref 28), some (.int l1), some (.int v1), some (.int (-1)), none, none, none, none, none]) dX11_tryOf_7 rfl (Nat.le_of_ble_eq_true rfl) rfl ?_
  refine kr_bipush (v := 11) dX11_tryOf_8 (by decide) ?_
  refine kr_istore (ls' := [some (.ref 28), some (.int l1), some (.int v1), some (.int (-1)), some (.int 11), none, none, none, none]) dX11_tryOf_10 (Nat.le_of_ble_eq_true rfl) rfl ?_
  refine kr_iconst (v := 0) dX11_tryOf_12 (by decide) ?_
  refine kr_istore (ls' := [some (.ref 28), some (.int l1), some (.int v1), some (.int (-1)), some (.int 11), some (.int 0), none, none, none]) dX11_tryOf_13 (Nat.le_of_ble_eq_true rfl) rfl ?_
  refine kv_loc (ls' := [some (.ref 28), none, some (.int v1), some (.int (-1)), some (.int 11), some (.int 0), none, none, none]) (And.intro rfl (And.intro rfl (And.intro rfl (And.intro rfl (And.intro rfl trivial))))) ?_
  exact RX11_tryOf_15 e N _ _ _ _ _ h
set_option maxRecDepth 20000 in
set_option maxHeartbeats 4000000 in
theorem RX11_tellPerson {Z : kv_Z} (e : Nat) {N : Nat} {G : kg_G} {l1 : Int32} {l2 : Int32} {res : Int32} (h : fX11_tellPerson N G l1 l2 = some res) : kv_M Z (e + 3) kMX11_tellPerson [.ref 28, .int l1, .int l2] (kg_w G) (some (.int res)) (kg_w G) := by
  refine kv_M_of (ls := [some (.ref 28), some (.int l1), some (.int l2)]) (by decide) (Nat.le_of_ble_eq_true rfl) rfl ?_
  unfold fX11_tellPerson at h
  refine kr_iload_n dX11_tellPerson_0 rfl ?_
  by_cases c1_0 : l2 = 0
  · rw [if_pos c1_0] at h
    refine kr_tableIn (off := 47) (tgt := 48) dX11_tellPerson_1 (by rw [c1_0]; decide) (by rw [c1_0]; decide) (by rw [c1_0]; decide) rfl ?_
    refine kr_aload_n dX11_tellPerson_48 rfl ?_
    refine kr_iload_n dX11_tellPerson_49 rfl ?_
    obtain ⟨v1, hv1, h⟩ := Option.bind_eq_some_iff.mp h
    refine kr_callVi (M' := kMX11_isKept) (a := 28) (As := [.int l1]) (st := []) (RX11_isKept (e + 2) hv1) koX11_isKept rfl rfl rfl kw5_96 kw5_98 kws_27 rfl (Nat.le_of_ble_eq_true rfl) dX11_tellPerson_50 ?_
    refine kr_if_eq (tgt := 67) dX11_tellPerson_53 rfl (fun c53 => ?_) (fun c53 => ?_)
    · rw [if_pos c53] at h
      refine kr_iconst (v := (-1)) dX11_tellPerson_67 (by decide) ?_
      cases h
      exact kr_iret rfl dX11_tellPerson_68
    · rw [if_neg c53] at h
      refine kr_aload_n dX11_tellPerson_56 rfl ?_
      refine kx_g28_13 kw4_150 dX11_tellPerson_57 ?_
      refine kr_iconst (v := 3) dX11_tellPerson_60 (by decide) ?_
      refine kr_iload_n dX11_tellPerson_61 rfl ?_
      refine kr_imul dX11_tellPerson_62 ?_
      obtain ⟨v2, hv2, h⟩ := Option.bind_eq_some_iff.mp h
      refine kx_a31 (G.2.1 31) rfl hv2 dX11_tellPerson_63 ?_
      refine kr_goto (tgt := 68) dX11_tellPerson_64 rfl ?_
      cases h
      exact kr_iret rfl dX11_tellPerson_68
  rw [if_neg c1_0] at h
  by_cases c1_1 : l2 = 1
  · rw [if_pos c1_1] at h
    refine kr_tableIn (off := 68) (tgt := 69) dX11_tellPerson_1 (by rw [c1_1]; decide) (by rw [c1_1]; decide) (by rw [c1_1]; decide) rfl ?_
    refine kr_aload_n dX11_tellPerson_69 rfl ?_
    refine kx_g28_13 kw4_150 dX11_tellPerson_70 ?_
    refine kr_iconst (v := 3) dX11_tellPerson_73 (by decide) ?_
    refine kr_iload_n dX11_tellPerson_74 rfl ?_
    refine kr_imul dX11_tellPerson_75 ?_
    refine kr_iconst (v := 1) dX11_tellPerson_76 (by decide) ?_
    refine kr_iadd dX11_tellPerson_77 ?_
    obtain ⟨v3, hv3, h⟩ := Option.bind_eq_some_iff.mp h
    refine kx_a31 (G.2.1 31) rfl hv3 dX11_tellPerson_78 ?_
    cases h
    exact kr_iret rfl dX11_tellPerson_79
  rw [if_neg c1_1] at h
  by_cases c1_2 : l2 = 2
  · rw [if_pos c1_2] at h
    refine kr_tableIn (off := 79) (tgt := 80) dX11_tellPerson_1 (by rw [c1_2]; decide) (by rw [c1_2]; decide) (by rw [c1_2]; decide) rfl ?_
    refine kr_aload_n dX11_tellPerson_80 rfl ?_
    refine kr_iload_n dX11_tellPerson_81 rfl ?_
    obtain ⟨v4, hv4, h⟩ := Option.bind_eq_some_iff.mp h
    refine kr_callVi (M' := kMX11_isKept) (a := 28) (As := [.int l1]) (st := []) (RX11_isKept (e + 2) hv4) koX11_isKept rfl rfl rfl kw5_96 kw5_98 kws_27 rfl (Nat.le_of_ble_eq_true rfl) dX11_tellPerson_82 ?_
    refine kr_if_eq (tgt := 92) dX11_tellPerson_85 rfl (fun c85 => ?_) (fun c85 => ?_)
    · rw [if_pos c85] at h
      refine kr_iconst (v := 0) dX11_tellPerson_92 (by decide) ?_
      cases h
      exact kr_iret rfl dX11_tellPerson_93
    · rw [if_neg c85] at h
      refine kr_iconst (v := 1) dX11_tellPerson_88 (by decide) ?_
      refine kr_goto (tgt := 93) dX11_tellPerson_89 rfl ?_
      cases h
      exact kr_iret rfl dX11_tellPerson_93
  rw [if_neg c1_2] at h
  by_cases c1_3 : l2 = 3
  · rw [if_pos c1_3] at h
    refine kr_tableIn (off := 93) (tgt := 94) dX11_tellPerson_1 (by rw [c1_3]; decide) (by rw [c1_3]; decide) (by rw [c1_3]; decide) rfl ?_
    refine kr_aload_n dX11_tellPerson_94 rfl ?_
    refine kr_iload_n dX11_tellPerson_95 rfl ?_
    obtain ⟨v5, hv5, h⟩ := Option.bind_eq_some_iff.mp h
    refine kr_callVi (M' := kMX11_castSet) (a := 28) (As := [.int l1]) (st := []) (RX11_castSet (e + 2) hv5) koX11_castSet rfl rfl rfl kw5_137 kw5_139 kws_35 rfl (Nat.le_of_ble_eq_true rfl) dX11_tellPerson_96 ?_
    cases h
    exact kr_iret rfl dX11_tellPerson_99
  rw [if_neg c1_3] at h
  by_cases c1_4 : l2 = 4
  · rw [if_pos c1_4] at h
    refine kr_tableIn (off := 99) (tgt := 100) dX11_tellPerson_1 (by rw [c1_4]; decide) (by rw [c1_4]; decide) (by rw [c1_4]; decide) rfl ?_
    refine kr_aload_n dX11_tellPerson_100 rfl ?_
    refine kr_iload_n dX11_tellPerson_101 rfl ?_
    obtain ⟨v6, hv6, h⟩ := Option.bind_eq_some_iff.mp h
    refine kr_callVi (M' := kMX11_busySet) (a := 28) (As := [.int l1]) (st := []) (RX11_busySet (e + 0) hv6) koX11_busySet rfl rfl rfl kw5_141 kw5_143 kws_36 rfl (Nat.le_of_ble_eq_true rfl) dX11_tellPerson_102 ?_
    cases h
    exact kr_iret rfl dX11_tellPerson_105
  rw [if_neg c1_4] at h
  by_cases c1_5 : l2 = 5
  · rw [if_pos c1_5] at h
    refine kr_tableIn (off := 105) (tgt := 106) dX11_tellPerson_1 (by rw [c1_5]; decide) (by rw [c1_5]; decide) (by rw [c1_5]; decide) rfl ?_
    refine kr_aload_n dX11_tellPerson_106 rfl ?_
    refine kx_g28_13 kw4_150 dX11_tellPerson_107 ?_
    refine kr_iconst (v := 3) dX11_tellPerson_110 (by decide) ?_
    refine kr_iload_n dX11_tellPerson_111 rfl ?_
    refine kr_imul dX11_tellPerson_112 ?_
    refine kr_iconst (v := 2) dX11_tellPerson_113 (by decide) ?_
    refine kr_iadd dX11_tellPerson_114 ?_
    obtain ⟨v7, hv7, h⟩ := Option.bind_eq_some_iff.mp h
    refine kx_a31 (G.2.1 31) rfl hv7 dX11_tellPerson_115 ?_
    cases h
    exact kr_iret rfl dX11_tellPerson_116
  rw [if_neg c1_5] at h
  by_cases c1_6 : l2 = 6
  · rw [if_pos c1_6] at h
    refine kr_tableIn (off := 116) (tgt := 117) dX11_tellPerson_1 (by rw [c1_6]; decide) (by rw [c1_6]; decide) (by rw [c1_6]; decide) rfl ?_
    refine kr_aload_n dX11_tellPerson_117 rfl ?_
    refine kr_iload_n dX11_tellPerson_118 rfl ?_
    obtain ⟨v8, hv8, h⟩ := Option.bind_eq_some_iff.mp h
    refine kr_callVi (M' := kMX11_strongsOf) (a := 28) (As := [.int l1]) (st := []) (RX11_strongsOf (e + 1) hv8) koX11_strongsOf rfl rfl rfl kw5_145 kw5_147 kws_37 rfl (Nat.le_of_ble_eq_true rfl) dX11_tellPerson_119 ?_
    cases h
    exact kr_iret rfl dX11_tellPerson_122
  rw [if_neg c1_6] at h
  by_cases c1_7 : l2 = 7
  · rw [if_pos c1_7] at h
    refine kr_tableIn (off := 122) (tgt := 123) dX11_tellPerson_1 (by rw [c1_7]; decide) (by rw [c1_7]; decide) (by rw [c1_7]; decide) rfl ?_
    refine kr_aload_n dX11_tellPerson_123 rfl ?_
    refine kr_iload_n dX11_tellPerson_124 rfl ?_
    obtain ⟨v9, hv9, h⟩ := Option.bind_eq_some_iff.mp h
    refine kr_callVi (M' := kMX11_tryOf) (a := 28) (As := [.int l1]) (st := []) (RX11_tryOf (e + 0) hv9) koX11_tryOf rfl rfl rfl kw5_149 kw5_151 kws_38 rfl (Nat.le_of_ble_eq_true rfl) dX11_tellPerson_125 ?_
    cases h
    exact kr_iret rfl dX11_tellPerson_128
  rw [if_neg c1_7] at h
  refine kr_tableOut (tgt := 129) dX11_tellPerson_1 (kx_out8 c1_0 c1_1 c1_2 c1_3 c1_4 c1_5 c1_6 c1_7) rfl ?_
  refine kr_bipush (v := (-102)) dX11_tellPerson_129 (by decide) ?_
  cases h
  exact kr_iret rfl dX11_tellPerson_131
set_option maxRecDepth 20000 in
set_option maxHeartbeats 4000000 in
theorem RX11_person {Z : kv_Z} (e : Nat) {N : Nat} {G : kg_G} {l1 : Int32} {l2 : Int32} {res : Int32} (h : fX11_person N G l1 l2 = some res) : kv_M Z (e + 4) kMX11_person [.ref 28, .int l1, .int l2] (kg_w G) (some (.int res)) (kg_w G) := by
  refine kv_M_of (ls := [some (.ref 28), some (.int l1), some (.int l2)]) (by decide) (Nat.le_of_ble_eq_true rfl) rfl ?_
  unfold fX11_person at h
  refine kr_aload_n dX11_person_0 rfl ?_
  refine kr_iload_n dX11_person_1 rfl ?_
  obtain ⟨v1, hv1, h⟩ := Option.bind_eq_some_iff.mp h
  refine kr_callVi (M' := kMX11_isPerson) (a := 28) (As := [.int l1]) (st := []) (RX11_isPerson (e + 2) hv1) koX11_isPerson rfl rfl rfl kw5_129 kw5_131 kws_33 rfl (Nat.le_of_ble_eq_true rfl) dX11_person_2 ?_
  refine kr_if_eq (tgt := 17) dX11_person_5 rfl (fun c5 => ?_) (fun c5 => ?_)
  · rw [if_pos c5] at h
    refine kr_bipush (v := (-101)) dX11_person_17 (by decide) ?_
    cases h
    exact kr_iret rfl dX11_person_19
  · rw [if_neg c5] at h
    refine kr_aload_n dX11_person_8 rfl ?_
    refine kr_iload_n dX11_person_9 rfl ?_
    refine kr_iload_n dX11_person_10 rfl ?_
    obtain ⟨v2, hv2, h⟩ := Option.bind_eq_some_iff.mp h
    refine kr_callVi (M' := kMX11_tellPerson) (a := 28) (As := [.int l1, .int l2]) (st := []) (RX11_tellPerson (e + 0) hv2) koX11_tellPerson rfl rfl rfl kw5_133 kw5_135 kws_34 rfl (Nat.le_of_ble_eq_true rfl) dX11_person_11 ?_
    refine kr_goto (tgt := 19) dX11_person_14 rfl ?_
    cases h
    exact kr_iret rfl dX11_person_19
set_option maxRecDepth 20000 in
set_option maxHeartbeats 4000000 in
theorem RX11_cast_41 {Z : kv_Z} (e : Nat) {N : Nat} : ∀ (G : kg_G) (l1 : Int32) (l2 : Int32) (s0 : Int32) (res : Int32 × kg_G), fX11_cast_41 N G l1 l2 s0 = some res → kv_V Z (e + 4) kMX11_cast 41 [some (.ref 28), some (.int l1), some (.int l2), none] [.int s0] (kg_w G) (some (.int res.1)) (kg_w res.2) := by
  intro G l1 l2 s0 res h
  unfold fX11_cast_41 at h
  refine kr_istore_n (i := 3) (ls' := [some (.ref 28), some (.int l1), some (.int l2), some (.int s0)]) dX11_cast_41 rfl (Nat.le_of_ble_eq_true rfl) rfl ?_
  refine kr_aload_n dX11_cast_42 rfl ?_
  refine kr_iload_n dX11_cast_43 rfl ?_
  obtain ⟨v1, hv1, h⟩ := Option.bind_eq_some_iff.mp h
  refine kr_callVi (M' := kMX11_isKept) (a := 28) (As := [.int l2]) (st := []) (RX11_isKept (e + 3) hv1) koX11_isKept rfl rfl rfl kw5_96 kw5_98 kws_27 rfl (Nat.le_of_ble_eq_true rfl) dX11_cast_44 ?_
  refine kr_if_eq (tgt := 82) dX11_cast_47 rfl (fun c47 => ?_) (fun c47 => ?_)
  · rw [if_pos c47] at h
    refine kr_bipush (v := (-103)) dX11_cast_82 (by decide) ?_
    cases h
    exact kr_iret rfl dX11_cast_84
  · rw [if_neg c47] at h
    refine kr_aload_n dX11_cast_50 rfl ?_
    refine kx_g28_14 kw4_151 dX11_cast_51 ?_
    refine kr_iload_n dX11_cast_54 rfl ?_
    obtain ⟨v2, hv2, h⟩ := Option.bind_eq_some_iff.mp h
    refine kx_a32 (G.2.1 32) rfl hv2 dX11_cast_55 ?_
    refine kr_iload_n dX11_cast_56 rfl ?_
    refine kr_ishr dX11_cast_57 ?_
    refine kr_iconst (v := 1) dX11_cast_58 (by decide) ?_
    refine kr_iand dX11_cast_59 ?_
    refine kr_iconst (v := 1) dX11_cast_60 (by decide) ?_
    refine kr_icmp_eq (tgt := 82) dX11_cast_61 rfl (fun c61 => ?_) (fun c61 => ?_)
    · rw [if_pos c61] at h
      refine kr_bipush (v := (-103)) dX11_cast_82 (by decide) ?_
      cases h
      exact kr_iret rfl dX11_cast_84
    · rw [if_neg c61] at h
      refine kr_iload_n dX11_cast_64 rfl ?_
      refine kr_if_ne (tgt := 82) dX11_cast_65 rfl (fun c65 => ?_) (fun c65 => ?_)
      · rw [if_pos c65] at h
        refine kr_aload_n dX11_cast_68 rfl ?_
        refine kr_iload_n dX11_cast_69 rfl ?_
        obtain ⟨v3, hv3, h⟩ := Option.bind_eq_some_iff.mp h
        refine kr_callVi (M' := kMX11_castSet) (a := 28) (As := [.int l2]) (st := []) (RX11_castSet (e + 3) hv3) koX11_castSet rfl rfl rfl kw5_137 kw5_139 kws_35 rfl (Nat.le_of_ble_eq_true rfl) dX11_cast_70 ?_
        refine kr_aload_n dX11_cast_73 rfl ?_
        refine kr_iload_n dX11_cast_74 rfl ?_
        obtain ⟨v4, hv4, h⟩ := Option.bind_eq_some_iff.mp h
        refine kr_callVi (M' := kMX11_clashSet) (a := 28) (As := [.int l1]) (st := [.int v3]) (RX11_clashSet (e + 0) hv4) koX11_clashSet rfl rfl rfl kw5_104 kw5_106 kws_29 rfl (Nat.le_of_ble_eq_true rfl) dX11_cast_75 ?_
        refine kr_iand dX11_cast_78 ?_
        refine kr_if_eq (tgt := 85) dX11_cast_79 rfl (fun c79 => ?_) (fun c79 => ?_)
        · rw [if_pos c79] at h
          refine kr_aload_n dX11_cast_85 rfl ?_
          refine kx_g28_14 kw4_151 dX11_cast_86 ?_
          refine kr_iload_n dX11_cast_89 rfl ?_
          refine kr_dup2 dX11_cast_90 rfl rfl ?_
          obtain ⟨v5, hv5, h⟩ := Option.bind_eq_some_iff.mp h
          refine kx_a32 (G.2.1 32) rfl hv5 dX11_cast_91 ?_
          refine kr_iconst (v := 1) dX11_cast_92 (by decide) ?_
          refine kr_iload_n dX11_cast_93 rfl ?_
          refine kr_ishl dX11_cast_94 ?_
          refine kr_ior dX11_cast_95 ?_
          obtain ⟨v6, hv6, h⟩ := Option.bind_eq_some_iff.mp h
          refine kx_s32 (G.2.1 32) rfl hv6 dX11_cast_96 ?_
          refine kr_aload_n dX11_cast_97 rfl ?_
          refine kx_g28_14 kw4_151 dX11_cast_98 ?_
          refine kr_iload_n dX11_cast_101 rfl ?_
          obtain ⟨v7, hv7, h⟩ := Option.bind_eq_some_iff.mp h
          refine kx_a32 v6 rfl hv7 dX11_cast_102 ?_
          obtain ⟨v8, hv8, h⟩ := Option.bind_eq_some_iff.mp h
          refine kr_callSi (M' := kMX11_ones) (As := [.int v7]) (st := []) (RX11_ones (e + 3) hv8) koX11_ones rfl kw5_89 kw5_90 rfl (Nat.le_of_ble_eq_true rfl) dX11_cast_103 ?_
          cases h
          exact kr_iret rfl dX11_cast_106
        · rw [if_neg c79] at h
          refine kr_bipush (v := (-103)) dX11_cast_82 (by decide) ?_
          cases h
          exact kr_iret rfl dX11_cast_84
      · rw [if_neg c65] at h
        refine kr_bipush (v := (-103)) dX11_cast_82 (by decide) ?_
        cases h
        exact kr_iret rfl dX11_cast_84
set_option maxRecDepth 20000 in
set_option maxHeartbeats 4000000 in
theorem RX11_cast {Z : kv_Z} (e : Nat) {N : Nat} {G : kg_G} {l1 : Int32} {l2 : Int32} {res : Int32 × kg_G} (h : fX11_cast N G l1 l2 = some res) : kv_M Z (e + 4) kMX11_cast [.ref 28, .int l1, .int l2] (kg_w G) (some (.int res.1)) (kg_w res.2) := by
  refine kv_M_of (ls := [some (.ref 28), some (.int l1), some (.int l2), none]) (by decide) (Nat.le_of_ble_eq_true rfl) rfl ?_
  unfold fX11_cast at h
  refine kr_aload_n dX11_cast_0 rfl ?_
  refine kr_iload_n dX11_cast_1 rfl ?_
  obtain ⟨v1, hv1, h⟩ := Option.bind_eq_some_iff.mp h
  refine kr_callVi (M' := kMX11_isTrick) (a := 28) (As := [.int l1]) (st := []) (RX11_isTrick (e + 2) hv1) koX11_isTrick rfl rfl rfl kw5_69 kw5_71 kws_21 rfl (Nat.le_of_ble_eq_true rfl) dX11_cast_2 ?_
  refine kr_if_eq (tgt := 16) dX11_cast_5 rfl (fun c5 => ?_) (fun c5 => ?_)
  · rw [if_pos c5] at h
    refine kr_bipush (v := (-101)) dX11_cast_16 (by decide) ?_
    cases h
    exact kr_iret rfl dX11_cast_18
  · rw [if_neg c5] at h
    refine kr_aload_n dX11_cast_8 rfl ?_
    refine kr_iload_n dX11_cast_9 rfl ?_
    obtain ⟨v2, hv2, h⟩ := Option.bind_eq_some_iff.mp h
    refine kr_callVi (M' := kMX11_isPerson) (a := 28) (As := [.int l2]) (st := []) (RX11_isPerson (e + 2) hv2) koX11_isPerson rfl rfl rfl kw5_129 kw5_131 kws_33 rfl (Nat.le_of_ble_eq_true rfl) dX11_cast_10 ?_
    refine kr_if_ne (tgt := 19) dX11_cast_13 rfl (fun c13 => ?_) (fun c13 => ?_)
    · rw [if_pos c13] at h
      refine kr_bipush (v := (-101)) dX11_cast_16 (by decide) ?_
      cases h
      exact kr_iret rfl dX11_cast_18
    · rw [if_neg c13] at h
      refine kr_aload_n dX11_cast_19 rfl ?_
      refine kx_g28_14 kw4_151 dX11_cast_20 ?_
      refine kr_iload_n dX11_cast_23 rfl ?_
      obtain ⟨v3, hv3, h⟩ := Option.bind_eq_some_iff.mp h
      refine kx_a32 (G.2.1 32) rfl hv3 dX11_cast_24 ?_
      obtain ⟨v4, hv4, h⟩ := Option.bind_eq_some_iff.mp h
      refine kr_callSi (M' := kMX11_ones) (As := [.int v3]) (st := []) (RX11_ones (e + 3) hv4) koX11_ones rfl kw5_89 kw5_90 rfl (Nat.le_of_ble_eq_true rfl) dX11_cast_25 ?_
      refine kr_aload_n dX11_cast_28 rfl ?_
      refine kr_iload_n dX11_cast_29 rfl ?_
      obtain ⟨v5, hv5, h⟩ := Option.bind_eq_some_iff.mp h
      refine kr_callVi (M' := kMX11_wantsOf) (a := 28) (As := [.int l1]) (st := [.int v4]) (RX11_wantsOf (e + 3) hv5) koX11_wantsOf rfl rfl rfl kw5_77 kw5_79 kws_23 rfl (Nat.le_of_ble_eq_true rfl) dX11_cast_30 ?_
      refine kr_icmp_ne (tgt := 40) dX11_cast_33 rfl (fun c33 => ?_) (fun c33 => ?_)
      · rw [if_pos c33] at h
        refine kr_iconst (v := 1) dX11_cast_36 (by decide) ?_
        refine kr_goto (tgt := 41) dX11_cast_37 rfl ?_
        exact RX11_cast_41 e _ _ _ _ _ h
      · rw [if_neg c33] at h
        refine kr_iconst (v := 0) dX11_cast_40 (by decide) ?_
        exact RX11_cast_41 e _ _ _ _ _ h
