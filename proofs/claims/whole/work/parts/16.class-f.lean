/-! THE CLASS, as pure functions (printed by wip/whole/gen.py out of its bytecode) -/
def fJ6_bitCount_0f7a4_41 (l0 : Int32) : Int32 := (l0 + (((Int32.toUInt32 l0) >>> ((Int32.toUInt32 16) &&& Int32.toUInt32 31)).toInt32)) &&& 63
def fJ6_bitCount_0f7a4_34 (l0 : Int32) : Int32 := fJ6_bitCount_0f7a4_41 (l0 + (((Int32.toUInt32 l0) >>> ((Int32.toUInt32 8) &&& Int32.toUInt32 31)).toInt32))
def fJ6_bitCount_0f7a4_24 (l0 : Int32) : Int32 := fJ6_bitCount_0f7a4_34 ((l0 + (((Int32.toUInt32 l0) >>> ((Int32.toUInt32 4) &&& Int32.toUInt32 31)).toInt32)) &&& 252645135)
def fJ6_bitCount_0f7a4_10 (l0 : Int32) : Int32 := fJ6_bitCount_0f7a4_24 ((l0 &&& 858993459) + ((((Int32.toUInt32 l0) >>> ((Int32.toUInt32 2) &&& Int32.toUInt32 31)).toInt32) &&& 858993459))
def fJ6_bitCount_0f7a4 (l0 : Int32) : Int32 := fJ6_bitCount_0f7a4_10 (l0 - ((((Int32.toUInt32 l0) >>> ((Int32.toUInt32 1) &&& Int32.toUInt32 31)).toInt32) &&& 1431655765))
def fJ9_min_7cf53 (l0 : Int32) (l1 : Int32) : Int32 := if l1 < l0 then l1 else l0
def fJ9_max_7cf53 (l0 : Int32) (l1 : Int32) : Int32 := if l0 < l1 then l1 else l0
def fJ9_floorMod_7cf53 (l0 : Int32) (l1 : Int32) : Option (Int32) := if l1 = 0 then none else if 0 ≤ (l0 ^^^ l1) then some (l0 - l0 / l1 * l1) else if (l0 - l0 / l1 * l1) = 0 then some (l0 - l0 / l1 * l1) else some ((l0 - l0 / l1 * l1) + l1)
def fJ7_fill_53178_5 (N : Nat) : Nat → kg_G → Nat → Int32 → Int32 → Int32 → Option (kg_G)
  | 0, _, _, _, _, _ => none
  | n + 1, G, a0, l1, l2, l3 => if l3 ≤ l2 then some G else (kg_sd G a0 l2 l1).bind fun v1 => (fJ7_fill_53178_5 N n) v1 a0 l1 (l2 + 1) l3
def fJ7_fill_53178 (N : Nat) (G : kg_G) (a0 : Nat) (l1 : Int32) : Option (kg_G) := (kg_le G a0).bind fun v1 => fJ7_fill_53178_5 N N G a0 l1 0 v1
def fJ0_coder_7d493 : Int32 := if (1 : Int32) = 0 then 1 else 0
def fJ0_isLatin1_aae02 : Int32 := if (1 : Int32) = 0 then 0 else if (0 : Int32) = 0 then 1 else 0
def fJ0_length_8abf5 : Int32 := 5 >>> (fJ0_coder_7d493 &&& 31)
def fJ1_canEncode_9a6ad (l0 : Int32) : Int32 := if l0 < 0 then 0 else if 255 < l0 then 0 else 1
def fJ1_indexOfChar_4cfef_7 (N : Nat) : Nat → Int32 → Int32 → Int32 → Option (Int32)
  | 0, _, _, _ => none
  | n + 1, l3, l4, l5 => if l3 ≤ l5 then some (-1) else (kx_by l5).bind fun v1 => if v1 = l4 then some l5 else (fJ1_indexOfChar_4cfef_7 N n) l3 l4 (l5 + 1)
def fJ1_indexOfChar_4cfef (N : Nat) (l1 : Int32) (l2 : Int32) (l3 : Int32) : Option (Int32) := fJ1_indexOfChar_4cfef_7 N N l3 l1.toInt8.toInt32 l2
def fJ1_indexOf_4cfef (N : Nat) (l1 : Int32) (l2 : Int32) (l3 : Int32) : Option (Int32) := if (fJ1_canEncode_9a6ad l1) = 0 then some (-1) else if (fJ9_max_7cf53 l2 0) < (fJ9_min_7cf53 l3 5) then (fJ1_indexOfChar_4cfef N l1 (fJ9_max_7cf53 l2 0) (fJ9_min_7cf53 l3 5)).bind fun v4 => some v4 else some (-1)
def fJ0_indexOf_7cf53 (N : Nat) (l1 : Int32) (l2 : Int32) : Option (Int32) := if fJ0_isLatin1_aae02 = 0 then none else (fJ1_indexOf_4cfef N l1 l2 fJ0_length_8abf5).bind fun v3 => some v3
def fJ0_indexOf_0f7a4 (N : Nat) (l1 : Int32) : Option (Int32) := (fJ0_indexOf_7cf53 N l1 0).bind fun v1 => some v1
def fX2_put (G : kg_G) (l1 : Int32) : Option (Int32 × kg_G) := if (G.1 1 1) < 36 then (kv_p (G.2.1 2) (G.1 1 1) l1).bind fun v1 => some (1, kg_i (kg_a G 2 v1) 1 1 ((G.1 1 1) + 1)) else some (0, G)
def fX10_letter (G : kg_G) (l1 : Int32) : Option (Int32 × kg_G) := if l1 < 1 then some ((-102), G) else if l1 ≤ 126 then (fX2_put G l1).bind fun v1 => if v1.1 = 0 then some ((-104), v1.2) else some (v1.2.1 1 1, v1.2) else some ((-102), G)
def fX10_blank (G : kg_G) : Int32 × kg_G := (G.1 1 1, kg_i G 1 1 0)
def fX2_tricksEnd_2 (N : Nat) (G : kg_G) : Nat → Int32 → Option (Int32)
  | 0, _ => none
  | n + 1, l1 => if (G.1 1 1) ≤ l1 then some (G.1 1 1) else (kv_g (G.2.1 2) l1).bind fun v1 => if v1 = 59 then some l1 else (fX2_tricksEnd_2 N G n) (l1 + 1)
def fX2_tricksEnd (N : Nat) (G : kg_G) : Option (Int32) := fX2_tricksEnd_2 N G N 0
def fX2_digitAt (G : kg_G) (l1 : Int32) : Option (Int32) := if l1 < 0 then some (-1) else if 36 ≤ l1 then some (-1) else (kv_g (G.2.1 2) l1).bind fun v1 => some (v1 - 48)
def fX2_isDigit (G : kg_G) (l1 : Int32) (l2 : Int32) (l3 : Int32) : Option (Int32) := (fX2_digitAt G l1).bind fun v1 => if v1 < l2 then some 0 else if l3 < v1 then some 0 else some 1
def fX2_isOfPeople_27 (G : kg_G) (s1 : Int32) (s2 : Int32) (s3 : Int32) : Option (Int32) := (fX2_isDigit G s1 s2 s3).bind fun v1 => if v1 = 0 then some 0 else some 1
def fX2_isOfPeople (G : kg_G) (l1 : Int32) (l2 : Int32) : Option (Int32) := if 10 ≤ ((l1 - l2) - 1) then some 0 else if (((l1 - l2) - 1) - ((l1 - l2) - 1) / 2 * 2) = 0 then fX2_isOfPeople_27 G l1 0 9 else fX2_isOfPeople_27 G l1 0 5
def fX2_isOfTricks (N : Nat) (G : kg_G) (l1 : Int32) : Option (Int32) := if (l1 - l1 / 5 * 5) = 0 then (kv_g (G.2.1 2) l1).bind fun v1 => (fJ0_indexOf_0f7a4 N ((v1.toUInt32 % 65536).toInt32)).bind fun v2 => if v2 < 0 then some 0 else some 1 else if (l1 - l1 / 5 * 5) = 1 then (fX2_isDigit G l1 0 7).bind fun v3 => if v3 &&& 1 = v3 then some v3 else none else if (l1 - l1 / 5 * 5) = 2 then (fX2_isDigit G l1 1 4).bind fun v4 => if v4 &&& 1 = v4 then some v4 else none else if (l1 - l1 / 5 * 5) = 3 then (fX2_isDigit G l1 0 9).bind fun v5 => if v5 &&& 1 = v5 then some v5 else none else (kv_g (G.2.1 2) l1).bind fun v6 => if v6 = 44 then if 5 ≤ ((l1 / 5) + 1) then some 0 else some 1 else (kv_g (G.2.1 2) l1).bind fun v7 => if v7 = 59 then if ((l1 / 5) + 1) < 2 then some 0 else some 1 else some 0
def fX2_firstFault_34 (N : Nat) (G : kg_G) (k7 : Int32 → Int32 → Option (Int32)) (l1 : Int32) (l2 : Int32) (s0 : Int32) : Option (Int32) := if s0 = 0 then some l2 else k7 l1 (l2 + 1)
def fX2_firstFault_7 (N : Nat) (G : kg_G) : Nat → Int32 → Int32 → Option (Int32)
  | 0, _, _ => none
  | n + 1, l1, l2 => if (G.1 1 1) ≤ l2 then some (G.1 1 1) else if l2 ≤ l1 then (fX2_isOfTricks N G l2).bind fun v1 => fX2_firstFault_34 N G (fX2_firstFault_7 N G n) l1 l2 v1 else (fX2_isOfPeople G l2 l1).bind fun v2 => fX2_firstFault_34 N G (fX2_firstFault_7 N G n) l1 l2 v2
def fX2_firstFault (N : Nat) (G : kg_G) : Option (Int32) := (fX2_tricksEnd N G).bind fun v1 => fX2_firstFault_7 N G N v1 0
def fX10_fault (N : Nat) (G : kg_G) : Option (Int32) := (fX2_firstFault N G).bind fun v1 => some v1
def fX10_isTrick (G : kg_G) (l1 : Int32) : Option (Int32) := if l1 < 0 then some 0 else (kg_bl (kg_Y G) G.2.2.2.1).bind fun v1 => (kg_ta (kg_Y G) v1.1).bind fun v2 => if (nI v2.length) ≤ l1 then some 0 else some 1
def fX10_has (l0 : Int32) (l1 : Int32) : Int32 := if ((((Int32.toUInt32 l0) >>> ((Int32.toUInt32 l1) &&& Int32.toUInt32 31)).toInt32) &&& 1) = 0 then 0 else 1
def fX0_isDoneBy_28 (N : Nat) (G : kg_G) : Nat → Int32 → Nat → Nat → Int32 → Int32 → Option (Int32)
  | 0, _, _, _, _, _ => none
  | n + 1, l2, a3, a4, l5, l6 => (kg_le G a3).bind fun v1 => if v1 ≤ l6 then (kg_tr (kg_Y G) a4).bind fun v2 => if (tk_holdsWith v2 l5) &&& 1 = (tk_holdsWith v2 l5) then some (tk_holdsWith v2 l5) else none else if (fX10_has l2 l6) = 0 then (fX0_isDoneBy_28 N G n) l2 a3 a4 l5 (l6 + 1) else (kg_ld G a3 l6).bind fun v4 => (kg_tr (kg_Y G) a4).bind fun v5 => if (tk_suits v5 v4) = 0 then some 0 else (kg_ld G a3 l6).bind fun v6 => (fX0_isDoneBy_28 N G n) l2 a3 a4 (l5 + v6) (l6 + 1)
def fX0_isDoneBy (N : Nat) (G : kg_G) (a0 : Nat) (l1 : Int32) (l2 : Int32) (a3 : Nat) : Option (Int32) := (kg_bl (kg_Y G) a0).bind fun v1 => (kg_ta (kg_Y G) v1.1).bind fun v2 => (kv_q v2 l1).bind fun v3 => (kg_tr (kg_Y G) v3).bind fun v5 => if (fJ6_bitCount_0f7a4 l2) = (tk_crew v5) then fX0_isDoneBy_28 N G N l2 a3 v3 0 0 else some 0
def fX10_isDoneNow (N : Nat) (G : kg_G) (l1 : Int32) : Option (Int32) := (kv_g (G.2.1 7) l1).bind fun v1 => (kg_bl (kg_Y G) G.2.2.2.1).bind fun v3 => (fX0_isDoneBy N G G.2.2.2.1 l1 v1 4).bind fun v2 => if v2 &&& 1 = v2 then some v2 else none
def fX9_suitedFor_4 (N : Nat) (G : kg_G) : Nat → Nat → Int32 → Int32 → Option (Int32)
  | 0, _, _, _ => none
  | n + 1, a1, l2, l3 => if 5 ≤ l3 then some l2 else if (fX10_has (G.1 3 6) l3) = 0 then (fX9_suitedFor_4 N G n) a1 l2 (l3 + 1) else (kv_g (G.2.1 4) l3).bind fun v2 => (kg_tr (kg_Y G) a1).bind fun v3 => if (tk_suits v3 v2) = 0 then (fX9_suitedFor_4 N G n) a1 l2 (l3 + 1) else (fX9_suitedFor_4 N G n) a1 (l2 ||| (1 <<< (l3 &&& 31))) (l3 + 1)
def fX9_suitedFor (N : Nat) (G : kg_G) (a1 : Nat) : Option (Int32) := fX9_suitedFor_4 N G N a1 0 0
def fX0_clashesOf_4 (N : Nat) (G : kg_G) : Nat → Nat → Int32 → Int32 → Int32 → Option (Int32)
  | 0, _, _, _, _ => none
  | n + 1, a0, l1, l2, l3 => (kg_bl (kg_Y G) a0).bind fun v1 => (kg_ta (kg_Y G) v1.1).bind fun v2 => if (nI v2.length) ≤ l3 then some l2 else if l3 = l1 then (fX0_clashesOf_4 N G n) a0 l1 l2 (l3 + 1) else (kg_bl (kg_Y G) a0).bind fun v3 => (kg_ta (kg_Y G) v3.1).bind fun v4 => (kv_q v4 l3).bind fun v5 => (kg_tr (kg_Y G) v5).bind fun v6 => (kg_bl (kg_Y G) a0).bind fun v7 => (kg_ta (kg_Y G) v7.1).bind fun v8 => (kv_q v8 l1).bind fun v9 => (kg_tr (kg_Y G) v9).bind fun v10 => if ((tk_busyHours v6) &&& (tk_busyHours v10)) = 0 then (fX0_clashesOf_4 N G n) a0 l1 l2 (l3 + 1) else (fX0_clashesOf_4 N G n) a0 l1 (l2 ||| (1 <<< (l3 &&& 31))) (l3 + 1)
def fX0_clashesOf (N : Nat) (G : kg_G) (a0 : Nat) (l1 : Int32) : Option (Int32) := fX0_clashesOf_4 N G N a0 l1 0 0
def fX10_trick (N : Nat) (G : kg_G) (l1 : Int32) (l2 : Int32) : Option (Int32) := (fX10_isTrick G l1).bind fun v1 => if v1 = 0 then some (-101) else (kg_bl (kg_Y G) G.2.2.2.1).bind fun v2 => (kg_ta (kg_Y G) v2.1).bind fun v3 => (kv_q v3 l1).bind fun v4 => if l2 = 0 then (kg_tr (kg_Y G) v4).bind fun v5 => some (tk_kind v5) else if l2 = 1 then (kg_tr (kg_Y G) v4).bind fun v6 => some v6.2.1 else if l2 = 2 then (kg_tr (kg_Y G) v4).bind fun v7 => some v7.2.2.1 else if l2 = 3 then (kg_tr (kg_Y G) v4).bind fun v8 => some v8.2.2.2 else if l2 = 4 then (kg_tr (kg_Y G) v4).bind fun v9 => some (tk_crew v9) else if l2 = 5 then (kv_g (G.2.1 7) l1).bind fun v10 => some v10 else if l2 = 6 then (fX10_isDoneNow N G l1).bind fun v11 => if v11 = 0 then some 0 else some 1 else if l2 = 7 then (fX9_suitedFor N G v4).bind fun v12 => some v12 else if l2 = 8 then (kg_bl (kg_Y G) G.2.2.2.1).bind fun v14 => (fX0_clashesOf N G G.2.2.2.1 l1).bind fun v13 => some v13 else some (-102)
def fX10_isOfKind (G : kg_G) (a0 : Nat) (l1 : Int32) : Option (Int32) := if l1 = 1 then (kg_tr (kg_Y G) a0).bind fun v1 => if (tk_inst3 v1) &&& 1 = (tk_inst3 v1) then some (tk_inst3 v1) else none else if l1 = 2 then (kg_tr (kg_Y G) a0).bind fun v2 => if (tk_inst6 v2) &&& 1 = (tk_inst6 v2) then some (tk_inst6 v2) else none else if l1 = 3 then (kg_tr (kg_Y G) a0).bind fun v3 => if (tk_inst1 v3) &&& 1 = (tk_inst1 v3) then some (tk_inst1 v3) else none else if l1 = 4 then (kg_tr (kg_Y G) a0).bind fun v4 => if (tk_inst5 v4) &&& 1 = (tk_inst5 v4) then some (tk_inst5 v4) else none else some 1
def fX10_as (G : kg_G) (l1 : Int32) (l2 : Int32) : Option (Int32) := (fX10_isTrick G l1).bind fun v1 => if v1 = 0 then some (-101) else if l2 < 0 then some (-102) else if l2 < 5 then (kg_bl (kg_Y G) G.2.2.2.1).bind fun v2 => (kg_ta (kg_Y G) v2.1).bind fun v3 => (kv_q v3 l1).bind fun v4 => (fX10_isOfKind G v4 l2).bind fun v5 => if v5 = 0 then some (-1) else some l1 else some (-102)
def fX10_isNumber (G : kg_G) (l1 : Int32) : Option (Int32) := if l1 < 0 then some 0 else (kg_bl (kg_Y G) G.2.2.2.1).bind fun v1 => if v1.2 ≤ l1 then some 0 else some 1
def fX9_tricksOf_4 (N : Nat) (G : kg_G) : Nat → Int32 → Int32 → Int32 → Option (Int32)
  | 0, _, _, _ => none
  | n + 1, l1, l2, l3 => if 5 ≤ l3 then some l2 else (kv_g (G.2.1 7) l3).bind fun v1 => if (fX10_has v1 l1) = 0 then (fX9_tricksOf_4 N G n) l1 l2 (l3 + 1) else (fX9_tricksOf_4 N G n) l1 (l2 ||| (1 <<< (l3 &&& 31))) (l3 + 1)
def fX9_tricksOf (N : Nat) (G : kg_G) (l1 : Int32) : Option (Int32) := fX9_tricksOf_4 N G N l1 0 0
def fX0_busyHoursOf_4 (N : Nat) (G : kg_G) : Nat → Nat → Int32 → Int32 → Int32 → Option (Int32)
  | 0, _, _, _, _ => none
  | n + 1, a0, l1, l2, l3 => (kg_bl (kg_Y G) a0).bind fun v1 => (kg_ta (kg_Y G) v1.1).bind fun v2 => if (nI v2.length) ≤ l3 then some l2 else if (fX10_has l1 l3) = 0 then (fX0_busyHoursOf_4 N G n) a0 l1 l2 (l3 + 1) else (kg_bl (kg_Y G) a0).bind fun v4 => (kg_ta (kg_Y G) v4.1).bind fun v5 => (kv_q v5 l3).bind fun v6 => (kg_tr (kg_Y G) v6).bind fun v7 => (fX0_busyHoursOf_4 N G n) a0 l1 (l2 ||| (tk_busyHours v7)) (l3 + 1)
def fX0_busyHoursOf (N : Nat) (G : kg_G) (a0 : Nat) (l1 : Int32) : Option (Int32) := fX0_busyHoursOf_4 N G N a0 l1 0 0
def fX9_strongsOf_6 (N : Nat) (G : kg_G) : Nat → Int32 → Int32 → Int32 → Option (Int32)
  | 0, _, _, _ => none
  | n + 1, l1, l2, l3 => if (G.1 3 13) ≤ l3 then some l2 else (kv_g (G.2.1 8) l3).bind fun v1 => if v1 = l1 then (kv_g (G.2.1 9) l3).bind fun v2 => (fX9_strongsOf_6 N G n) l1 (l2 &&& v2) (l3 + 1) else (fX9_strongsOf_6 N G n) l1 l2 (l3 + 1)
def fX9_strongsOf (N : Nat) (G : kg_G) (l1 : Int32) : Option (Int32) := fX9_strongsOf_6 N G N l1 1023 0
def fX0_trickToTry_57 (N : Nat) (G : kg_G) (k14 : Nat → Int32 → Int32 → Int32 → Int32 → Option (Int32)) (a0 : Nat) (l1 : Int32) (l2 : Int32) (l3 : Int32) (l4 : Int32) (l6 : Int32) : Option (Int32) := if l3 ≤ l6 then k14 a0 l1 l2 l3 (l4 + 1) else k14 a0 l1 l4 l6 (l4 + 1)
def fX0_trickToTry_14 (N : Nat) (G : kg_G) : Nat → Nat → Int32 → Int32 → Int32 → Int32 → Option (Int32)
  | 0, _, _, _, _, _ => none
  | n + 1, a0, l1, l2, l3, l4 => (kg_bl (kg_Y G) a0).bind fun v1 => (kg_ta (kg_Y G) v1.1).bind fun v2 => if (nI v2.length) ≤ l4 then some l2 else (kg_bl (kg_Y G) a0).bind fun v3 => (kg_ta (kg_Y G) v3.1).bind fun v4 => (kv_q v4 l4).bind fun v5 => (kg_tr (kg_Y G) v5).bind fun v6 => fX0_trickToTry_57 N G (fX0_trickToTry_14 N G n) a0 l1 l2 l3 l4 (fJ9_max_7cf53 (fJ6_bitCount_0f7a4 (l1 &&& (tk_suitedStrongs v6))) (fJ6_bitCount_0f7a4 (l1 &&& ((tk_suitedStrongs v6) ^^^ (-1)))))
def fX0_trickToTry (N : Nat) (G : kg_G) (a0 : Nat) (l1 : Int32) : Option (Int32) := if l1 = 0 then some (-1) else fX0_trickToTry_14 N G N a0 l1 (-1) 11 0
def fX10_person (N : Nat) (G : kg_G) (l1 : Int32) (l2 : Int32) : Option (Int32) := (fX10_isNumber G l1).bind fun v1 => if v1 = 0 then some (-101) else if l2 = 0 then if (fX10_has (G.1 3 6) l1) = 0 then some (-1) else (kv_g (G.2.1 4) l1).bind fun v3 => some v3 else if l2 = 1 then if (fX10_has (G.1 3 6) l1) = 0 then some (-1) else (kv_g (G.2.1 5) l1).bind fun v4 => some v4 else if l2 = 2 then if (fX10_has (G.1 3 6) l1) = 0 then some 0 else some 1 else if l2 = 3 then (fX9_tricksOf N G l1).bind fun v5 => some v5 else if l2 = 4 then (fX9_tricksOf N G l1).bind fun v6 => (kg_bl (kg_Y G) G.2.2.2.1).bind fun v8 => (fX0_busyHoursOf N G G.2.2.2.1 v6).bind fun v7 => some v7 else if l2 = 5 then if (fX10_has (G.1 3 6) l1) = 0 then some 0 else (kv_g (G.2.1 6) l1).bind fun v9 => some v9 else if l2 = 6 then (fX9_strongsOf N G l1).bind fun v10 => some v10 else if l2 = 7 then (fX9_strongsOf N G l1).bind fun v11 => (kg_bl (kg_Y G) G.2.2.2.1).bind fun v13 => (fX0_trickToTry N G G.2.2.2.1 v11).bind fun v12 => some v12 else some (-102)
def fX10_mayBeCast (N : Nat) (G : kg_G) (l1 : Int32) (l2 : Int32) : Option (Int32) := (kv_g (G.2.1 7) l1).bind fun v1 => if (fX10_has (G.1 3 6) l2) = 0 then some 0 else if (fX10_has v1 l2) = 0 then (kg_bl (kg_Y G) G.2.2.2.1).bind fun v5 => (kg_ta (kg_Y G) v5.1).bind fun v6 => (kv_q v6 l1).bind fun v7 => (kg_tr (kg_Y G) v7).bind fun v8 => if (tk_crew v8) ≤ (fJ6_bitCount_0f7a4 v1) then some 0 else (kg_bl (kg_Y G) G.2.2.2.1).bind fun v10 => (fX0_clashesOf N G G.2.2.2.1 l1).bind fun v9 => (fX9_tricksOf N G l2).bind fun v11 => if (v9 &&& v11) = 0 then some 1 else some 0 else some 0
def fX10_cast (N : Nat) (G : kg_G) (l1 : Int32) (l2 : Int32) : Option (Int32 × kg_G) := (fX10_isTrick G l1).bind fun v1 => if v1 = 0 then some ((-101), G) else (fX10_isNumber G l2).bind fun v2 => if v2 = 0 then some ((-101), G) else (fX10_mayBeCast N G l1 l2).bind fun v3 => if v3 = 0 then some ((-103), G) else (kv_g (G.2.1 7) l1).bind fun v4 => (kv_p (G.2.1 7) l1 (v4 ||| (1 <<< (l2 &&& 31)))).bind fun v5 => (kv_g v5 l1).bind fun v6 => some (fJ6_bitCount_0f7a4 v6, kg_a G 7 v5)
def fX10_drop (G : kg_G) (l1 : Int32) (l2 : Int32) : Option (Int32 × kg_G) := (fX10_isTrick G l1).bind fun v1 => if v1 = 0 then some ((-101), G) else (fX10_isNumber G l2).bind fun v2 => if v2 = 0 then some ((-101), G) else (kv_g (G.2.1 7) l1).bind fun v3 => if (fX10_has v3 l2) = 0 then some ((-103), G) else (kv_g (G.2.1 7) l1).bind fun v5 => (kv_p (G.2.1 7) l1 (v5 &&& ((1 <<< (l2 &&& 31)) ^^^ (-1)))).bind fun v6 => (kv_g v6 l1).bind fun v7 => some (fJ6_bitCount_0f7a4 v7, kg_a G 7 v6)
def fX10_clear_4 (N : Nat) : Nat → kg_G → Int32 → Int32 → Option (Int32 × kg_G)
  | 0, _, _, _ => none
  | n + 1, G, l1, l2 => if 5 ≤ l2 then some (l1, G) else (kv_g (G.2.1 7) l2).bind fun v1 => (kv_p (G.2.1 7) l2 0).bind fun v3 => (fX10_clear_4 N n) (kg_a G 7 v3) (l1 + (fJ6_bitCount_0f7a4 v1)) (l2 + 1)
def fX10_clear (N : Nat) (G : kg_G) : Option (Int32 × kg_G) := fX10_clear_4 N N G 0 0
def fX10_hasShow (G : kg_G) : Option (Int32) := (kg_bl (kg_Y G) G.2.2.2.1).bind fun v1 => (kg_ta (kg_Y G) v1.1).bind fun v2 => if (nI v2.length) ≤ 0 then some 0 else some 1
def fX4_prepare_44 (N : Nat) (k15 : kg_G → Nat → Int32 → Option (kg_G)) : Nat → kg_G → Nat → Int32 → Int32 → Option (kg_G)
  | 0, _, _, _, _ => none
  | n + 1, G, a1, l3, l4 => if 32 ≤ l4 then k15 G a1 (l3 + 1) else (kg_bl (kg_Y G) a1).bind fun v2 => (fX0_isDoneBy N G a1 l3 l4 4).bind fun v1 => if v1 = 0 then (fX4_prepare_44 N k15 n) G a1 l3 (l4 + 1) else (kv_g (G.2.1 20) l3).bind fun v3 => (kv_p (G.2.1 20) l3 (v3 ||| (1 <<< (l4 &&& 31)))).bind fun v4 => (fX4_prepare_44 N k15 n) (kg_a G 20 v4) a1 l3 (l4 + 1)
def fX4_prepare_15 (N : Nat) : Nat → kg_G → Nat → Int32 → Option (kg_G)
  | 0, _, _, _ => none
  | n + 1, G, a1, l3 => if (G.1 17 5) ≤ l3 then some G else (kg_bl (kg_Y G) a1).bind fun v2 => (fX0_clashesOf N G a1 l3).bind fun v1 => (kv_p (G.2.1 21) l3 v1).bind fun v3 => (kv_p (G.2.1 20) l3 0).bind fun v4 => fX4_prepare_44 N (fX4_prepare_15 N n) N (kg_a (kg_a G 21 v3) 20 v4) a1 l3 1
def fX4_prepare (N : Nat) (G : kg_G) (a1 : Nat) : Option (kg_G) := (kg_bl (kg_Y G) a1).bind fun v1 => (kg_ta (kg_Y G) v1.1).bind fun v2 => fX4_prepare_15 N N (kg_i G 17 5 (fJ9_min_7cf53 (nI v2.length) 5)) a1 0
def fX4_openWays_8 (N : Nat) (G : kg_G) : Nat → Int32 → Int32 → Int32 → Int32 → Option (Int32)
  | 0, _, _, _, _ => none
  | n + 1, l1, l2, l3, l4 => if l2 ≤ l4 then (kv_g (G.2.1 20) l1).bind fun v1 => (kv_g (G.2.1 22) l3).bind fun v2 => some (v1 &&& v2) else (kv_g (G.2.1 21) l1).bind fun v3 => if (fX10_has v3 l4) = 0 then (fX4_openWays_8 N G n) l1 l2 l3 (l4 + 1) else (kv_g (G.2.1 19) l4).bind fun v5 => (fX4_openWays_8 N G n) l1 l2 (l3 ||| v5) (l4 + 1)
def fX4_openWays (N : Nat) (G : kg_G) (l1 : Int32) (l2 : Int32) : Option (Int32) := fX4_openWays_8 N G N l1 l2 (G.1 17 6) 0
def fX4_stillOpen_4 (N : Nat) (G : kg_G) : Nat → Int32 → Int32 → Int32 → Option (Int32)
  | 0, _, _, _ => none
  | n + 1, l1, l2, l3 => if (G.1 17 5) ≤ l3 then some l2 else (fX4_openWays N G l3 l1).bind fun v1 => if v1 = 0 then (fX4_stillOpen_4 N G n) l1 l2 (l3 + 1) else (fX4_stillOpen_4 N G n) l1 (l2 + 1) (l3 + 1)
def fX4_stillOpen (N : Nat) (G : kg_G) (l1 : Int32) : Option (Int32) := fX4_stillOpen_4 N G N l1 0 l1
def fX4_hindersLater (G : kg_G) (l1 : Int32) : Option (Int32) := (kv_g (G.2.1 21) l1).bind fun v1 => if (((Int32.toUInt32 v1) >>> ((Int32.toUInt32 (l1 + 1)) &&& Int32.toUInt32 31)).toInt32) = 0 then some 0 else some 1
def fX4_choose_83 (N : Nat) (rec : kg_G → Int32 → Int32 → Option (kg_G)) : Nat → kg_G → Int32 → Int32 → Int32 → Int32 → Option (kg_G)
  | 0, _, _, _, _, _ => none
  | n + 1, G, l1, l2, l3, l4 => if 32 ≤ l4 then some G else if (fX10_has l3 l4) = 0 then (fX4_choose_83 N rec n) G l1 l2 l3 (l4 + 1) else (kv_p (G.2.1 19) l1 l4).bind fun v2 => (rec (kg_a G 19 v2) (l1 + 1) (l2 + 1)).bind fun v3 => (fX4_hindersLater v3 l1).bind fun v4 => if v4 = 0 then some v3 else (fX4_choose_83 N rec n) v3 l1 l2 l3 (l4 + 1)
def fX4_choose_65 (N : Nat) (rec : kg_G → Int32 → Int32 → Option (kg_G)) (G : kg_G) (l1 : Int32) (l2 : Int32) (l3 : Int32) : Option (kg_G) := (kv_p (G.2.1 19) l1 0).bind fun v1 => (rec (kg_a G 19 v1) (l1 + 1) l2).bind fun v2 => fX4_choose_83 N rec N v2 l1 l2 l3 1
def fX4_choose_0 (N : Nat) (rec : kg_G → Int32 → Int32 → Option (kg_G)) (G : kg_G) (l1 : Int32) (l2 : Int32) : Option (kg_G) := (fX4_stillOpen N G l1).bind fun v1 => if (G.1 17 7) < (l2 + v1) then if l1 < (G.1 17 5) then (fX4_openWays N G l1 l1).bind fun v2 => if v2 = 0 then fX4_choose_65 N rec G l1 l2 v2 else (fX4_hindersLater G l1).bind fun v3 => if v3 = 0 then fX4_choose_83 N rec N G l1 l2 v2 1 else fX4_choose_65 N rec G l1 l2 v2 else (kg_cp (G.2.1 19) (G.2.1 18) (G.1 17 5)).bind fun v4 => some (kg_a (kg_i G 17 7 l2) 18 v4) else some G
def fX4_choose (N : Nat) : Nat → kg_G → Int32 → Int32 → Option (kg_G)
  | 0 => fun _ _ _ => none
  | n + 1 => fun G l1 l2 => fX4_choose_0 N (fX4_choose N n) G l1 l2
def fX4_search (N : Nat) (G : kg_G) (l1 : Int32) (l2 : Int32) : Option (Int32 × kg_G) := (fJ7_fill_53178 N (kg_i (kg_i G 17 6 (31 &&& (l1 ^^^ (-1)))) 17 7 l2) 18 0).bind fun v1 => (fX4_choose N 7 v1 0 0).bind fun v2 => some (v2.1 17 7, v2)
def fX10_planMost (N : Nat) (G : kg_G) : Option (Int32 × kg_G) := (fX4_prepare N (kg_i G 0 8 ((G.1 0 8) + 1)) G.2.2.2.1).bind fun v1 => (fX4_search N v1 (v1.1 3 6) (-1)).bind fun v2 => some (v2.1, v2.2)
def fX10_fill_26 (N : Nat) : Nat → kg_G → Int32 → Int32 → Option (Int32 × kg_G)
  | 0, _, _, _ => none
  | n + 1, G, l1, l2 => if 5 ≤ l2 then some (l1, G) else (kv_g (G.2.1 18) l2).bind fun v1 => (kv_p (G.2.1 7) l2 v1).bind fun v2 => (fX10_fill_26 N n) (kg_a G 7 v2) l1 (l2 + 1)
def fX10_fill (N : Nat) (G : kg_G) : Option (Int32 × kg_G) := (fX10_hasShow G).bind fun v1 => if v1 = 0 then some ((-103), G) else if (G.1 0 8) < 16 then (fX10_planMost N G).bind fun v2 => fX10_fill_26 N N v2.2 v2.1 0 else some ((-103), G)
def fX9_holdRopes_2 (N : Nat) : Nat → kg_G → Int32 → Int32 → Option (kg_G)
  | 0, _, _, _ => none
  | n + 1, G, l1, l2 => if 5 ≤ l2 then some G else if (fX10_has l1 l2) = 0 then (fX9_holdRopes_2 N n) G l1 (l2 + 1) else (kv_g (G.2.1 6) l2).bind fun v2 => (kv_p (G.2.1 6) l2 (v2 + 1)).bind fun v3 => (fX9_holdRopes_2 N n) (kg_a G 6 v3) l1 (l2 + 1)
def fX9_holdRopes (N : Nat) (G : kg_G) (l1 : Int32) : Option (kg_G) := fX9_holdRopes_2 N N G l1 0
def fX10_night_31 (N : Nat) : Nat → kg_G → Int32 → Int32 → Int32 → Option (Int32 × kg_G)
  | 0, _, _, _, _ => none
  | n + 1, G, l1, l2, l3 => (kg_bl (kg_Y G) G.2.2.2.1).bind fun v1 => (kg_ta (kg_Y G) v1.1).bind fun v2 => if (nI v2.length) ≤ l3 then (fX9_holdRopes N G l1).bind fun v3 => some (l2, kg_i (kg_i v3 3 8 ((v3.1 3 8) + 1)) 3 9 ((v3.1 3 9) + l2)) else (fX10_isDoneNow N G l3).bind fun v4 => if v4 = 0 then (fX10_night_31 N n) G l1 l2 (l3 + 1) else (kv_g (G.2.1 7) l3).bind fun v5 => (fX10_night_31 N n) G (l1 ||| v5) (l2 + 1) (l3 + 1)
def fX10_night (N : Nat) (G : kg_G) : Option (Int32 × kg_G) := (fX10_hasShow G).bind fun v1 => if v1 = 0 then some ((-103), G) else if (G.1 3 8) < 99 then fX10_night_31 N N G 0 0 0 else some ((-104), G)
def fX10_move_39 (G : kg_G) (s1 : Int32) : Option (Int32 × kg_G) := (fJ9_floorMod_7cf53 s1 6).bind fun v1 => some (v1, kg_i (kg_i G 3 7 v1) 3 10 ((G.1 3 10) + 1))
def fX10_move (G : kg_G) (l1 : Int32) : Option (Int32 × kg_G) := (fX10_hasShow G).bind fun v1 => if v1 = 0 then some ((-103), G) else if l1 = 0 then fX10_move_39 G ((G.1 3 7) - 1) else fX10_move_39 G ((G.1 3 7) + 1)
def fX9_leave_16 (N : Nat) : Nat → kg_G → Int32 → Int32 → Option (kg_G)
  | 0, _, _, _ => none
  | n + 1, G, l1, l2 => if 5 ≤ l2 then some (kg_i G 3 12 ((G.1 3 12) + 1)) else (kv_g (G.2.1 7) l2).bind fun v1 => (kv_p (G.2.1 7) l2 (v1 &&& ((1 <<< (l1 &&& 31)) ^^^ (-1)))).bind fun v2 => (fX9_leave_16 N n) (kg_a G 7 v2) l1 (l2 + 1)
def fX9_leave (N : Nat) (G : kg_G) (l1 : Int32) : Option (kg_G) := fX9_leave_16 N N (kg_i G 3 6 ((G.1 3 6) &&& ((1 <<< (l1 &&& 31)) ^^^ (-1)))) l1 0
def fX10_letGo (N : Nat) (G : kg_G) (l1 : Int32) : Option (Int32 × kg_G) := (fX10_isNumber G l1).bind fun v1 => if v1 = 0 then some ((-101), G) else if (fX10_has (G.1 3 6) l1) = 0 then some ((-103), G) else (kv_g (G.2.1 5) l1).bind fun v3 => if v3 = (G.1 3 7) then (fX9_leave N G l1).bind fun v4 => some (fJ6_bitCount_0f7a4 (v4.1 3 6), v4) else some ((-103), G)
def fX9_join (G : kg_G) (l1 : Int32) (l2 : Int32) : Option (kg_G) := (kv_p (G.2.1 4) l1 l2).bind fun v1 => (kv_p (G.2.1 5) l1 (G.1 3 7)).bind fun v2 => (kv_p (G.2.1 6) l1 0).bind fun v3 => some (kg_i (kg_a (kg_a (kg_a (kg_i G 3 6 ((G.1 3 6) ||| (1 <<< (l1 &&& 31)))) 4 v1) 5 v2) 6 v3) 3 11 ((G.1 3 11) + 1))
def fX10_call (G : kg_G) (l1 : Int32) (l2 : Int32) : Option (Int32 × kg_G) := (fX10_isNumber G l1).bind fun v1 => if v1 = 0 then some ((-101), G) else if l2 < 0 then some ((-102), G) else if l2 ≤ 9 then if (fX10_has (G.1 3 6) l1) = 0 then (fX9_join G l1 l2).bind fun v3 => some (fJ6_bitCount_0f7a4 (v3.1 3 6), v3) else some ((-103), G) else some ((-102), G)
def fX10_most_19 (N : Nat) (G : kg_G) (l1 : Int32) : Option (Int32 × kg_G) := (fX10_hasShow G).bind fun v1 => if v1 = 0 then some ((-103), G) else if (G.1 0 8) < 16 then (fX10_planMost N G).bind fun v2 => if l1 = 0 then some (v2.1, v2.2) else (kv_g (v2.2.2.1 18) (l1 - 10)).bind fun v3 => some (v3, v2.2) else some ((-103), G)
def fX10_most (N : Nat) (G : kg_G) (l1 : Int32) : Option (Int32 × kg_G) := if l1 = 0 then fX10_most_19 N G l1 else if l1 < 10 then some ((-102), G) else if l1 ≤ 14 then fX10_most_19 N G l1 else some ((-102), G)
def fX4_fewestOf_56 (N : Nat) (k22 : kg_G → Int32 → Int32 → Option (Int32 × kg_G)) (k29 : kg_G → Int32 → Int32 → Int32 → Option (Int32 × kg_G)) (G : kg_G) (l1 : Int32) (l2 : Int32) (l3 : Int32) (s0 : Int32) : Option (Int32 × kg_G) := if s0 = 0 then k29 G l1 l2 (l3 + 1) else (fX4_search N G l3 ((G.1 17 5) - 1)).bind fun v1 => if v1.1 < (v1.2.1 17 5) then k29 v1.2 l1 l2 (l3 + 1) else some (l3, v1.2)
def fX4_fewestOf_55 (N : Nat) (k22 : kg_G → Int32 → Int32 → Option (Int32 × kg_G)) (k29 : kg_G → Int32 → Int32 → Int32 → Option (Int32 × kg_G)) (G : kg_G) (l1 : Int32) (l2 : Int32) (l3 : Int32) : Option (Int32 × kg_G) := fX4_fewestOf_56 N k22 k29 G l1 l2 l3 0
def fX4_fewestOf_29 (N : Nat) (k22 : kg_G → Int32 → Int32 → Option (Int32 × kg_G)) : Nat → kg_G → Int32 → Int32 → Int32 → Option (Int32 × kg_G)
  | 0, _, _, _, _ => none
  | n + 1, G, l1, l2, l3 => if 32 ≤ l3 then k22 G l1 (l2 + 1) else if (l3 &&& (l1 ^^^ (-1))) = 0 then if (fJ6_bitCount_0f7a4 l3) = l2 then fX4_fewestOf_56 N k22 (fX4_fewestOf_29 N k22 n) G l1 l2 l3 1 else fX4_fewestOf_55 N k22 (fX4_fewestOf_29 N k22 n) G l1 l2 l3 else fX4_fewestOf_55 N k22 (fX4_fewestOf_29 N k22 n) G l1 l2 l3
def fX4_fewestOf_22 (N : Nat) : Nat → kg_G → Int32 → Int32 → Option (Int32 × kg_G)
  | 0, _, _, _ => none
  | n + 1, G, l1, l2 => if 5 < l2 then some ((-1), G) else fX4_fewestOf_29 N (fX4_fewestOf_22 N n) N G l1 l2 1
def fX4_fewestOf (N : Nat) (G : kg_G) (l1 : Int32) : Option (Int32 × kg_G) := (fX4_search N G l1 ((G.1 17 5) - 1)).bind fun v1 => if (v1.2.1 17 5) ≤ v1.1 then fX4_fewestOf_22 N N v1.2 l1 1 else some ((-1), v1.2)
def fX10_fewest_12 (N : Nat) (G : kg_G) (l1 : Int32) : Option (Int32 × kg_G) := (fX10_hasShow G).bind fun v1 => if v1 = 0 then some ((-103), G) else if (G.1 0 9) < 6 then (fX4_prepare N (kg_i G 0 9 ((G.1 0 9) + 1)) G.2.2.2.1).bind fun v2 => (fX4_fewestOf N v2 (v2.1 3 6)).bind fun v3 => if l1 = 1 then some (v3.1, v3.2) else if v3.1 = (-1) then some (v3.1, v3.2) else some (fJ6_bitCount_0f7a4 v3.1, v3.2) else some ((-103), G)
def fX10_fewest (N : Nat) (G : kg_G) (l1 : Int32) : Option (Int32 × kg_G) := if l1 = 0 then fX10_fewest_12 N G l1 else if l1 = 1 then fX10_fewest_12 N G l1 else some ((-102), G)
def fX4_sparedOf_12 (N : Nat) : Nat → kg_G → Int32 → Int32 → Int32 → Int32 → Option (Int32 × kg_G)
  | 0, _, _, _, _, _ => none
  | n + 1, G, l1, l2, l3, l4 => if 5 ≤ l4 then some (l3, G) else if (fX10_has l1 l4) = 0 then (fX4_sparedOf_12 N n) G l1 l2 l3 (l4 + 1) else (fX4_search N G (l1 &&& ((1 <<< (l4 &&& 31)) ^^^ (-1))) (l2 - 1)).bind fun v2 => if v2.1 < l2 then (fX4_sparedOf_12 N n) v2.2 l1 l2 l3 (l4 + 1) else (fX4_sparedOf_12 N n) v2.2 l1 l2 (l3 ||| (1 <<< (l4 &&& 31))) (l4 + 1)
def fX4_sparedOf (N : Nat) (G : kg_G) (l1 : Int32) : Option (Int32 × kg_G) := (fX4_search N G l1 (-1)).bind fun v1 => fX4_sparedOf_12 N N v1.2 l1 v1.1 0 0
def fX10_spare (N : Nat) (G : kg_G) : Option (Int32 × kg_G) := (fX10_hasShow G).bind fun v1 => if v1 = 0 then some ((-103), G) else if (G.1 0 10) < 6 then (fX4_prepare N (kg_i G 0 10 ((G.1 0 10) + 1)) G.2.2.2.1).bind fun v2 => (fX4_sparedOf N v2 (v2.1 3 6)).bind fun v3 => some (v3.1, v3.2) else some ((-103), G)
def fX0_wantedIn_4 (N : Nat) (G : kg_G) : Nat → Nat → Int32 → Int32 → Int32 → Option (Int32)
  | 0, _, _, _, _ => none
  | n + 1, a0, l1, l2, l3 => (kg_bl (kg_Y G) a0).bind fun v1 => (kg_ta (kg_Y G) v1.1).bind fun v2 => if (nI v2.length) ≤ l3 then some l2 else (kg_bl (kg_Y G) a0).bind fun v3 => (kg_ta (kg_Y G) v3.1).bind fun v4 => (kv_q v4 l3).bind fun v5 => (kg_tr (kg_Y G) v5).bind fun v6 => if (fX10_has (tk_runningHours v6) l1) = 0 then (fX0_wantedIn_4 N G n) a0 l1 l2 (l3 + 1) else (kg_bl (kg_Y G) a0).bind fun v8 => (kg_ta (kg_Y G) v8.1).bind fun v9 => (kv_q v9 l3).bind fun v10 => (kg_tr (kg_Y G) v10).bind fun v11 => (fX0_wantedIn_4 N G n) a0 l1 (l2 + (tk_crew v11)) (l3 + 1)
def fX0_wantedIn (N : Nat) (G : kg_G) (a0 : Nat) (l1 : Int32) : Option (Int32) := fX0_wantedIn_4 N G N a0 l1 0 0
def fX10_wants (N : Nat) (G : kg_G) (l1 : Int32) : Option (Int32) := if l1 < 0 then some (-102) else if l1 ≤ 11 then (fX10_hasShow G).bind fun v1 => if v1 = 0 then some (-103) else (kg_bl (kg_Y G) G.2.2.2.1).bind fun v3 => (fX0_wantedIn N G G.2.2.2.1 l1).bind fun v2 => some v2 else some (-102)
def fX9_movesAhead_4 (N : Nat) (G : kg_G) : Nat → Int32 → Int32 → Int32 → Option (Int32)
  | 0, _, _, _ => none
  | n + 1, l1, l2, l3 => if 5 ≤ l3 then some l2 else if (fX10_has l1 l3) = 0 then (fX9_movesAhead_4 N G n) l1 l2 (l3 + 1) else (kv_g (G.2.1 5) l3).bind fun v2 => (fJ9_floorMod_7cf53 (v2 - (G.1 3 7)) 6).bind fun v3 => (fX9_movesAhead_4 N G n) l1 (l2 ||| (1 <<< (v3 &&& 31))) (l3 + 1)
def fX9_movesAhead (N : Nat) (G : kg_G) (l1 : Int32) : Option (Int32) := fX9_movesAhead_4 N G N l1 0 0
def fX10_movesBackFor_4 (N : Nat) : Nat → Int32 → Int32 → Option (Int32)
  | 0, _, _ => none
  | n + 1, l0, l2 => if 6 ≤ l2 then some 0 else if (fX10_has l0 l2) = 0 then (fX10_movesBackFor_4 N n) l0 (l2 + 1) else some (6 - l2)
def fX10_movesBackFor (N : Nat) (l0 : Int32) (l1 : Int32) : Option (Int32) := fX10_movesBackFor_4 N N l0 (l1 + 1)
def fX10_movesOnFirst_31 (N : Nat) (k5 : Int32 → Int32 → Int32 → Option (Int32)) (l0 : Int32) (l2 : Int32) (s0 : Int32) (s1 : Int32) : Option (Int32) := k5 l0 (fJ9_min_7cf53 s0 s1) (l2 + 1)
def fX10_movesOnFirst_5 (N : Nat) : Nat → Int32 → Int32 → Int32 → Option (Int32)
  | 0, _, _, _ => none
  | n + 1, l0, l1, l2 => if 6 ≤ l2 then some l1 else (fX10_movesBackFor N l0 l2).bind fun v1 => if v1 = 0 then fX10_movesOnFirst_31 N (fX10_movesOnFirst_5 N n) l0 l2 l1 l2 else fX10_movesOnFirst_31 N (fX10_movesOnFirst_5 N n) l0 l2 l1 ((2 * l2) + v1)
def fX10_movesOnFirst (N : Nat) (l0 : Int32) : Option (Int32) := fX10_movesOnFirst_5 N N l0 6 1
def fX10_movesBackFirst_35 (N : Nat) (k5 : Int32 → Int32 → Int32 → Option (Int32)) (l0 : Int32) (l2 : Int32) (s0 : Int32) (s1 : Int32) : Option (Int32) := k5 l0 (fJ9_min_7cf53 s0 s1) (l2 + 1)
def fX10_movesBackFirst_5 (N : Nat) : Nat → Int32 → Int32 → Int32 → Option (Int32)
  | 0, _, _, _ => none
  | n + 1, l0, l1, l2 => if 6 ≤ l2 then some l1 else (fX10_movesBackFor N l0 l2).bind fun v1 => if v1 ≤ 0 then (fX10_movesBackFirst_5 N n) l0 l1 (l2 + 1) else if l2 = 0 then fX10_movesBackFirst_35 N (fX10_movesBackFirst_5 N n) l0 l2 l1 v1 else fX10_movesBackFirst_35 N (fX10_movesBackFirst_5 N n) l0 l2 l1 ((2 * v1) + l2)
def fX10_movesBackFirst (N : Nat) (l0 : Int32) : Option (Int32) := fX10_movesBackFirst_5 N N l0 12 0
def fX10_fewestMoves (N : Nat) (l0 : Int32) : Option (Int32) := if l0 = 1 then some 0 else (fX10_movesOnFirst N l0).bind fun v1 => (fX10_movesBackFirst N l0).bind fun v2 => some (fJ9_min_7cf53 v1 v2)
def fX10_firstMove (N : Nat) (l0 : Int32) : Option (Int32) := if l0 = 1 then some (-1) else (fX10_movesOnFirst N l0).bind fun v1 => (fX10_movesBackFirst N l0).bind fun v2 => if v2 < v1 then some 0 else some 1
def fX10_route_30 (N : Nat) (G : kg_G) (l1 : Int32) (l2 : Int32) : Option (Int32) := (fX9_movesAhead N G l1).bind fun v1 => if l2 = 0 then (fX10_fewestMoves N v1).bind fun v2 => some v2 else (fX10_firstMove N v1).bind fun v3 => some v3
def fX10_route (N : Nat) (G : kg_G) (l1 : Int32) (l2 : Int32) : Option (Int32) := if l1 = 0 then some (-102) else if (l1 &&& ((G.1 3 6) ^^^ (-1))) = 0 then if l2 = 0 then fX10_route_30 N G l1 l2 else if l2 = 1 then fX10_route_30 N G l1 l2 else some (-102) else some (-102)
def fX9_addSeen (G : kg_G) (l1 : Int32) (l2 : Int32) : Option (Int32 × kg_G) := if (G.1 3 13) < 8 then (kv_p (G.2.1 8) (G.1 3 13) l1).bind fun v1 => (kv_p (G.2.1 9) (G.1 3 13) l2).bind fun v2 => some (1, kg_i (kg_a (kg_a G 8 v1) 9 v2) 3 13 ((G.1 3 13) + 1)) else some (0, G)
def fX10_see_55 (G : kg_G) (s1 : Int32) (s2 : Int32) : Option (Int32 × kg_G) := (fX9_addSeen G s1 s2).bind fun v1 => if v1.1 = 0 then some ((-104), v1.2) else some (v1.2.1 3 13, v1.2)
def fX10_see (G : kg_G) (l1 : Int32) (l2 : Int32) (l3 : Int32) : Option (Int32 × kg_G) := (fX10_isNumber G l1).bind fun v1 => if v1 = 0 then some ((-101), G) else (fX10_isTrick G l2).bind fun v2 => if v2 = 0 then some ((-101), G) else (kg_bl (kg_Y G) G.2.2.2.1).bind fun v3 => (kg_ta (kg_Y G) v3.1).bind fun v4 => (kv_q v4 l2).bind fun v5 => (kg_tr (kg_Y G) v5).bind fun v6 => if l3 = 0 then fX10_see_55 G l1 (1023 &&& ((tk_suitedStrongs v6) ^^^ (-1))) else fX10_see_55 G l1 (tk_suitedStrongs v6)
def fX10_forget (G : kg_G) : Int32 × kg_G := (G.1 3 13, kg_i G 3 13 0)
def fX7_drawStrong (G : kg_G) : Int32 × kg_G := ((((((1103515245 * ((G.1 23 5).toInt64)) + 12345) &&& 2147483647).toInt32) / 65536) - (((((1103515245 * ((G.1 23 5).toInt64)) + 12345) &&& 2147483647).toInt32) / 65536) / 10 * 10, kg_i G 23 5 ((((1103515245 * ((G.1 23 5).toInt64)) + 12345) &&& 2147483647).toInt32))
def fX7_callUp (G : kg_G) (l1 : Int32) : Option (kg_G) := if 5 ≤ (G.1 23 2) then some G else (kv_p (G.2.1 24) (G.1 23 2) l1).bind fun v1 => some (kg_i (kg_a G 24 v1) 23 2 ((G.1 23 2) + 1))
def fX7_busyFor_5 (N : Nat) (G : kg_G) : Nat → Int32 → Int32 → Int32 → Int32 → Option (Int32)
  | 0, _, _, _, _ => none
  | n + 1, l1, l2, l3, l4 => if l2 ≤ l4 then some l3 else if (fX10_has l1 l4) = 0 then (fX7_busyFor_5 N G n) l1 l2 l3 (l4 + 1) else (kv_g (G.2.1 25) l4).bind fun v2 => (fX7_busyFor_5 N G n) l1 l2 (l3 ||| v2) (l4 + 1)
def fX7_busyFor (N : Nat) (G : kg_G) (l1 : Int32) (l2 : Int32) : Option (Int32) := fX7_busyFor_5 N G N l1 l2 0 0
def fX7_take_11 (N : Nat) (G : kg_G) : Nat → Nat → Int32 → Int32 → Int32 → Int32 → Option (Int32)
  | 0, _, _, _, _, _ => none
  | n + 1, a1, l2, l3, l4, l5 => if (G.1 23 2) ≤ l5 then some l3 else if l4 ≤ 0 then some l3 else if (fX10_has l2 l5) = 0 then (kv_g (G.2.1 24) l5).bind fun v2 => (kg_tr (kg_Y G) a1).bind fun v3 => if (tk_suits v3 v2) = 0 then (fX7_take_11 N G n) a1 l2 l3 l4 (l5 + 1) else (fX7_take_11 N G n) a1 l2 (l3 ||| (1 <<< (l5 &&& 31))) (l4 + (-1)) (l5 + 1) else (fX7_take_11 N G n) a1 l2 l3 l4 (l5 + 1)
def fX7_take (N : Nat) (G : kg_G) (a1 : Nat) (l2 : Int32) : Option (Int32) := (kg_tr (kg_Y G) a1).bind fun v1 => fX7_take_11 N G N a1 l2 0 (tk_crew v1) 0
def fX7_play_15 (N : Nat) : Nat → kg_G → Nat → Int32 → Int32 → Int32 → Option (Int32 × kg_G)
  | 0, _, _, _, _, _ => none
  | n + 1, G, a1, l2, l3, l4 => if l3 ≤ l4 then some (l2, G) else (kg_bl (kg_Y G) a1).bind fun v1 => (kg_ta (kg_Y G) v1.1).bind fun v2 => (kv_q v2 l4).bind fun v3 => (kg_bl (kg_Y G) a1).bind fun v5 => (fX0_clashesOf N G a1 l4).bind fun v4 => (fX7_busyFor N G v4 l4).bind fun v6 => (fX7_take N G v3 v6).bind fun v7 => (kv_p (G.2.1 25) l4 v7).bind fun v8 => (kv_g v8 l4).bind fun v9 => (kg_bl (kg_Y G) a1).bind fun v11 => (fX0_isDoneBy N (kg_a G 25 v8) a1 l4 v9 24).bind fun v10 => if v10 = 0 then (fX7_play_15 N n) (kg_a G 25 v8) a1 l2 l3 (l4 + 1) else (kv_g v8 l4).bind fun v12 => (fX7_play_15 N n) (kg_i (kg_a G 25 v8) 23 3 ((G.1 23 3) + 1)) a1 (l2 ||| v12) l3 (l4 + 1)
def fX7_play (N : Nat) (G : kg_G) (a1 : Nat) : Option (Int32 × kg_G) := (kg_bl (kg_Y G) a1).bind fun v1 => (kg_ta (kg_Y G) v1.1).bind fun v2 => fX7_play_15 N N G a1 0 (fJ9_min_7cf53 (nI v2.length) 5) 0
def fX7_sendHome_36 (N : Nat) : Nat → kg_G → Int32 → Option (kg_G)
  | 0, _, _ => none
  | n + 1, G, l3 => if (G.1 23 2) ≤ l3 then some (kg_i (kg_i G 23 2 ((G.1 23 2) - 1)) 23 4 ((G.1 23 4) + 1)) else (kv_g (G.2.1 24) l3).bind fun v1 => (kv_p (G.2.1 24) (l3 - 1) v1).bind fun v2 => (fX7_sendHome_36 N n) (kg_a G 24 v2) (l3 + 1)
def fX7_sendHome_24 (N : Nat) (G : kg_G) (l2 : Int32) : Option (kg_G) := if (G.1 23 2) ≤ l2 then some G else fX7_sendHome_36 N N G (l2 + 1)
def fX7_sendHome_2 (N : Nat) : Nat → kg_G → Int32 → Int32 → Option (kg_G)
  | 0, _, _, _ => none
  | n + 1, G, l1, l2 => if (G.1 23 2) ≤ l2 then fX7_sendHome_24 N G l2 else if (fX10_has l1 l2) = 0 then fX7_sendHome_24 N G l2 else (fX7_sendHome_2 N n) G l1 (l2 + 1)
def fX7_sendHome (N : Nat) (G : kg_G) (l1 : Int32) : Option (kg_G) := fX7_sendHome_2 N N G l1 0
def fX7_go_23 (N : Nat) : Nat → kg_G → Nat → Int32 → Int32 → Option (kg_G)
  | 0, _, _, _, _ => none
  | n + 1, G, a1, l2, l4 => if l2 ≤ l4 then some G else (fX7_callUp ((fX7_drawStrong G).2) ((fX7_drawStrong G).1)).bind fun v2 => (fX7_play N v2 a1).bind fun v3 => (fX7_sendHome N v3.2 v3.1).bind fun v4 => (fX7_go_23 N n) v4 a1 l2 (l4 + 1)
def fX7_go (N : Nat) (G : kg_G) (a1 : Nat) (l2 : Int32) (l3 : Int32) : Option (kg_G) := fX7_go_23 N N (kg_i (kg_i (kg_i (kg_i G 23 2 0) 23 3 0) 23 4 0) 23 5 l3) a1 l2 0
def fX10_tours (N : Nat) (G : kg_G) (l1 : Int32) (l2 : Int32) (l3 : Int32) : Option (Int32 × kg_G) := if l1 < 1 then some ((-102), G) else if 40 < l1 then some ((-102), G) else if l2 < 0 then some ((-102), G) else if l3 < 0 then some ((-102), G) else if l3 ≤ 2 then (fX10_hasShow G).bind fun v1 => if v1 = 0 then some ((-103), G) else (fX7_go N G G.2.2.2.1 l1 l2).bind fun v2 => if l3 = 0 then some (v2.1 23 3, v2) else if l3 = 1 then some (v2.1 23 4, v2) else some (v2.1 23 5, v2) else some ((-102), G)
def fX9_copyFrom_3_10 (G : kg_G) : Option (kg_G) := (kg_cp (G.2.1 11) (G.2.1 4) 5).bind fun v1 => (kg_cp (G.2.1 12) (G.2.1 5) 5).bind fun v2 => (kg_cp (G.2.1 13) (G.2.1 6) 5).bind fun v3 => (kg_cp (G.2.1 14) (G.2.1 7) 5).bind fun v4 => (kg_cp (G.2.1 15) (G.2.1 8) 8).bind fun v5 => (kg_cp (G.2.1 16) (G.2.1 9) 8).bind fun v6 => some (kg_i (kg_i (kg_i (kg_i (kg_i (kg_i (kg_i (kg_i (kg_a (kg_a (kg_a (kg_a (kg_a (kg_a G 4 v1) 5 v2) 6 v3) 7 v4) 8 v5) 9 v6) 3 6 (G.1 10 6)) 3 7 (G.1 10 7)) 3 8 (G.1 10 8)) 3 9 (G.1 10 9)) 3 10 (G.1 10 10)) 3 11 (G.1 10 11)) 3 12 (G.1 10 12)) 3 13 (G.1 10 13))
def fX9_copyFrom_10_3 (G : kg_G) : Option (kg_G) := (kg_cp (G.2.1 4) (G.2.1 11) 5).bind fun v1 => (kg_cp (G.2.1 5) (G.2.1 12) 5).bind fun v2 => (kg_cp (G.2.1 6) (G.2.1 13) 5).bind fun v3 => (kg_cp (G.2.1 7) (G.2.1 14) 5).bind fun v4 => (kg_cp (G.2.1 8) (G.2.1 15) 8).bind fun v5 => (kg_cp (G.2.1 9) (G.2.1 16) 8).bind fun v6 => some (kg_i (kg_i (kg_i (kg_i (kg_i (kg_i (kg_i (kg_i (kg_a (kg_a (kg_a (kg_a (kg_a (kg_a G 11 v1) 12 v2) 13 v3) 14 v4) 15 v5) 16 v6) 10 6 (G.1 3 6)) 10 7 (G.1 3 7)) 10 8 (G.1 3 8)) 10 9 (G.1 3 9)) 10 10 (G.1 3 10)) 10 11 (G.1 3 11)) 10 12 (G.1 3 12)) 10 13 (G.1 3 13))
def fX10_image (G : kg_G) : Option (Int32 × kg_G) := (fX10_hasShow G).bind fun v1 => if v1 = 0 then some ((-103), G) else (fX9_copyFrom_10_3 G).bind fun v2 => some (v2.1 3 8, kg_i v2 0 6 1)
def fX10_restore (G : kg_G) : Option (Int32 × kg_G) := if (G.1 0 6) = 0 then some ((-103), G) else (fX9_copyFrom_3_10 G).bind fun v1 => some (v1.1 3 8, v1)
def fX10_doneNow_4 (N : Nat) (G : kg_G) : Nat → Int32 → Int32 → Option (Int32)
  | 0, _, _ => none
  | n + 1, l1, l2 => (kg_bl (kg_Y G) G.2.2.2.1).bind fun v1 => (kg_ta (kg_Y G) v1.1).bind fun v2 => if (nI v2.length) ≤ l2 then some l1 else (fX10_isDoneNow N G l2).bind fun v3 => if v3 = 0 then (fX10_doneNow_4 N G n) l1 (l2 + 1) else (fX10_doneNow_4 N G n) (l1 + 1) (l2 + 1)
def fX10_doneNow (N : Nat) (G : kg_G) : Option (Int32) := fX10_doneNow_4 N G N 0 0
def fX0_bound_4 (N : Nat) (G : kg_G) : Nat → Nat → Int32 → Int32 → Option (Int32)
  | 0, _, _, _ => none
  | n + 1, a0, l1, l2 => if 11 < l2 then some l1 else (kg_bl (kg_Y G) a0).bind fun v2 => (fX0_wantedIn N G a0 l2).bind fun v1 => (fX0_bound_4 N G n) a0 (fJ9_max_7cf53 l1 v1) (l2 + 1)
def fX0_bound (N : Nat) (G : kg_G) (a0 : Nat) : Option (Int32) := fX0_bound_4 N G N a0 0 0
def fX10_count (N : Nat) (G : kg_G) (l1 : Int32) : Option (Int32) := if l1 = 0 then (kg_bl (kg_Y G) G.2.2.2.1).bind fun v1 => (kg_ta (kg_Y G) v1.1).bind fun v2 => some (nI v2.length) else if l1 = 1 then (kg_bl (kg_Y G) G.2.2.2.1).bind fun v3 => some v3.2 else if l1 = 2 then some (fJ6_bitCount_0f7a4 (G.1 3 6)) else if l1 = 3 then (fX10_doneNow N G).bind fun v5 => some v5 else if l1 = 4 then (kg_bl (kg_Y G) G.2.2.2.1).bind fun v7 => (fX0_bound N G G.2.2.2.1).bind fun v6 => some v6 else if l1 = 5 then some (G.1 3 8) else if l1 = 6 then some (G.1 3 9) else if l1 = 7 then some (G.1 3 10) else if l1 = 8 then some (G.1 3 7) else if l1 = 9 then some (G.1 3 11) else if l1 = 10 then some (G.1 3 12) else if l1 = 11 then some (G.1 3 13) else if l1 = 12 then some (G.1 1 1) else if l1 = 13 then some (G.1 0 7) else if l1 = 14 then some (G.1 0 8) else if l1 = 15 then some (G.1 0 9) else if l1 = 16 then some (G.1 0 10) else some (-102)
def fX10_digestOfShow_146 (N : Nat) (G : kg_G) (l3 : Int64) : Option (Int64) := if (G.1 3 6) = 0 then some l3 else (fX10_route N G (G.1 3 6) 0).bind fun v1 => (fX10_route N G (G.1 3 6) 1).bind fun v2 => some ((31 * ((31 * l3) + v1.toInt64)) + v2.toInt64)
def fX10_digestOfShow_119 (N : Nat) (G : kg_G) : Nat → Int64 → Int32 → Option (Int64)
  | 0, _, _ => none
  | n + 1, l3, l5 => if 11 < l5 then fX10_digestOfShow_146 N G l3 else (fX10_wants N G l5).bind fun v1 => (fX10_digestOfShow_119 N G n) ((31 * l3) + v1.toInt64) (l5 + 1)
def fX10_digestOfShow_74 (N : Nat) (G : kg_G) (k59 : Int64 → Int32 → Option (Int64)) : Nat → Int64 → Int32 → Int32 → Option (Int64)
  | 0, _, _, _ => none
  | n + 1, l3, l5, l6 => if 7 < l6 then k59 l3 (l5 + 1) else (fX10_person N G l5 l6).bind fun v1 => (fX10_digestOfShow_74 N G k59 n) ((31 * l3) + v1.toInt64) l5 (l6 + 1)
def fX10_digestOfShow_59 (N : Nat) (G : kg_G) : Nat → Int64 → Int32 → Option (Int64)
  | 0, _, _ => none
  | n + 1, l3, l5 => (kg_bl (kg_Y G) G.2.2.2.1).bind fun v1 => if v1.2 ≤ l5 then (fX10_hasShow G).bind fun v2 => if v2 = 0 then fX10_digestOfShow_146 N G l3 else fX10_digestOfShow_119 N G N l3 0 else fX10_digestOfShow_74 N G (fX10_digestOfShow_59 N G n) N l3 l5 0
def fX10_digestOfShow_21 (N : Nat) (G : kg_G) (k5 : Int64 → Int32 → Option (Int64)) : Nat → Int64 → Int32 → Int32 → Option (Int64)
  | 0, _, _, _ => none
  | n + 1, l3, l5, l6 => if 8 < l6 then k5 l3 (l5 + 1) else (fX10_trick N G l5 l6).bind fun v1 => (fX10_digestOfShow_21 N G k5 n) ((31 * l3) + v1.toInt64) l5 (l6 + 1)
def fX10_digestOfShow_5 (N : Nat) (G : kg_G) : Nat → Int64 → Int32 → Option (Int64)
  | 0, _, _ => none
  | n + 1, l3, l5 => (kg_bl (kg_Y G) G.2.2.2.1).bind fun v1 => (kg_ta (kg_Y G) v1.1).bind fun v2 => if (nI v2.length) ≤ l5 then fX10_digestOfShow_59 N G N l3 0 else fX10_digestOfShow_21 N G (fX10_digestOfShow_5 N G n) N l3 l5 0
def fX10_digestOfShow (N : Nat) (G : kg_G) (l1 : Int64) : Option (Int64) := fX10_digestOfShow_5 N G N l1 0
def fX10_digest_46 (N : Nat) (G : kg_G) : Nat → Int64 → Int32 → Option (Int64)
  | 0, _, _ => none
  | n + 1, l1, l3 => if 16 < l3 then some l1 else (fX10_count N G l3).bind fun v1 => (fX10_digest_46 N G n) ((31 * l1) + v1.toInt64) (l3 + 1)
def fX10_digest_10 (N : Nat) (G : kg_G) : Nat → Int64 → Int32 → Option (Int64)
  | 0, _, _ => none
  | n + 1, l1, l3 => if (G.1 1 1) ≤ l3 then fX10_digest_46 N G N l1 0 else (kv_g (G.2.1 2) l3).bind fun v1 => (fX10_digest_10 N G n) ((31 * l1) + v1.toInt64) (l3 + 1)
def fX10_digest (N : Nat) (G : kg_G) : Option (Int64) := (fX10_digestOfShow N G 1117).bind fun v1 => fX10_digest_10 N G N v1 0
def fX2_isShow (N : Nat) (G : kg_G) : Option (Int32) := (fX2_tricksEnd N G).bind fun v1 => if (((G.1 1 1) - v1) - 1) ≤ 0 then some 0 else if ((((G.1 1 1) - v1) - 1) - (((G.1 1 1) - v1) - 1) / 2 * 2) = 0 then (fX2_firstFault N G).bind fun v2 => if v2 = (G.1 1 1) then some 1 else some 0 else some 0
def fX9_startAnew (N : Nat) (G : kg_G) (l1 : Int32) : Option (kg_G) := (fJ7_fill_53178 N G 6 0).bind fun v1 => (fJ7_fill_53178 N v1 7 0).bind fun v2 => some (kg_i (kg_i (kg_i (kg_i (kg_i (kg_i (kg_i (kg_i v2 3 6 ((1 <<< (l1 &&& 31)) - 1)) 3 7 0) 3 8 0) 3 9 0) 3 10 0) 3 11 0) 3 12 0) 3 13 0)
def fX2_readPeople_15 (N : Nat) : Nat → kg_G → Int32 → Int32 → Int32 → Option (kg_G)
  | 0, _, _, _, _ => none
  | n + 1, G, l2, l3, l4 => if l2 ≤ l4 then some G else (fX2_digitAt G (l3 + (2 * l4))).bind fun v1 => (kv_p (G.2.1 4) l4 v1).bind fun v2 => (fX2_digitAt (kg_a G 4 v2) ((l3 + (2 * l4)) + 1)).bind fun v3 => (kv_p (G.2.1 5) l4 v3).bind fun v4 => (fX2_readPeople_15 N n) (kg_a (kg_a G 4 v2) 5 v4) l2 l3 (l4 + 1)
def fX2_readPeople (N : Nat) (G : kg_G) (l2 : Int32) : Option (kg_G) := (fX2_tricksEnd N G).bind fun v1 => (fX9_startAnew N G l2).bind fun v2 => fX2_readPeople_15 N N v2 l2 (v1 + 1) 0
