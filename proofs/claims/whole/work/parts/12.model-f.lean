/-! THE REFERENCE, as pure functions (printed by wip/whole/gen.py out of its bytecode) -/
def fX11_in (l0 : Int64) (l2 : Int64) (l4 : Int64) : Int32 := if (lg_cmp l0 l2) < 0 then 0 else if 0 < (lg_cmp l0 l4) then 0 else 1
def fX11_copy_2 (N : Nat) : Nat → kg_G → Nat → Nat → Int32 → Option (kg_G)
  | 0, _, _, _, _ => none
  | n + 1, G, a0, a1, l2 => (kg_le G a0).bind fun v1 => if v1 ≤ l2 then some G else (kg_ld G a0 l2).bind fun v2 => (kg_sd G a1 l2 v2).bind fun v3 => (fX11_copy_2 N n) v3 a0 a1 (l2 + 1)
def fX11_copy (N : Nat) (G : kg_G) (a0 : Nat) (a1 : Nat) : Option (kg_G) := fX11_copy_2 N N G a0 a1 0
def fX11_ones_4 (N : Nat) : Nat → Int32 → Int32 → Int32 → Option (Int32)
  | 0, _, _, _ => none
  | n + 1, l0, l1, l2 => if 12 ≤ l2 then some l1 else (fX11_ones_4 N n) l0 (l1 + ((l0 >>> (l2 &&& 31)) &&& 1)) (l2 + 1)
def fX11_ones (N : Nat) (l0 : Int32) : Option (Int32) := fX11_ones_4 N N l0 0 0
def fX11_letter (G : kg_G) (l1 : Int32) : Option (Int32 × kg_G) := if (fX11_in l1.toInt64 1 126) = 0 then some ((-102), G) else if (G.1 28 1) = 36 then some ((-104), G) else (kv_p (G.2.1 29) (G.1 28 1) l1).bind fun v2 => some ((G.1 28 1) + 1, kg_i (kg_a G 29 v2) 28 1 ((G.1 28 1) + 1))
def fX11_blank (G : kg_G) : Int32 × kg_G := (G.1 28 1, kg_i G 28 1 0)
def fX11_kindBy (l0 : Int32) : Int32 := if l0 = 108 then 3 else if l0 = 109 then (-1) else if l0 = 110 then (-1) else if l0 = 111 then (-1) else if l0 = 112 then 1 else if l0 = 113 then (-1) else if l0 = 114 then 4 else if l0 = 115 then 2 else if l0 = 116 then 0 else (-1)
def fX11_isTrickLetter_102 (G : kg_G) (l1 : Int32) (l2 : Int32) : Option (Int32) := if l2 = 59 then if l1 ≤ 4 then some 0 else some 1 else some 0
def fX11_isTrickLetter (G : kg_G) (l1 : Int32) : Option (Int32) := (kv_g (G.2.1 29) l1).bind fun v1 => if (l1 - l1 / 5 * 5) = 0 then if (fX11_kindBy v1) = (-1) then some 0 else some 1 else if (l1 - l1 / 5 * 5) = 1 then if (fX11_in v1.toInt64 48 55) &&& 1 = (fX11_in v1.toInt64 48 55) then some (fX11_in v1.toInt64 48 55) else none else if (l1 - l1 / 5 * 5) = 2 then if (fX11_in v1.toInt64 49 52) &&& 1 = (fX11_in v1.toInt64 49 52) then some (fX11_in v1.toInt64 49 52) else none else if (l1 - l1 / 5 * 5) = 3 then if (fX11_in v1.toInt64 48 57) &&& 1 = (fX11_in v1.toInt64 48 57) then some (fX11_in v1.toInt64 48 57) else none else if v1 = 44 then if l1 < 24 then some 1 else fX11_isTrickLetter_102 G l1 v1 else fX11_isTrickLetter_102 G l1 v1
def fX11_isGood_48 (G : kg_G) (s0 : Int64) (s1 : Int64) (s2 : Int64) : Option (Int32 × kg_G) := if (fX11_in s0 s1 s2) = 0 then some (0, G) else some (1, G)
def fX11_isGood (G : kg_G) (l1 : Int32) : Option (Int32 × kg_G) := if (G.1 28 2) = (-1) then (fX11_isTrickLetter G l1).bind fun v1 => if v1 = 0 then if v1 &&& 1 = v1 then some (v1, kg_i G 28 2 (-1)) else none else (kv_g (G.2.1 29) l1).bind fun v2 => if v2 = 59 then if v1 &&& 1 = v1 then some (v1, kg_i G 28 2 l1) else none else if v1 &&& 1 = v1 then some (v1, kg_i G 28 2 (-1)) else none else if 10 ≤ ((l1 - (G.1 28 2)) - 1) then some (0, G) else (kv_g (G.2.1 29) l1).bind fun v3 => if (((l1 - (G.1 28 2)) - 1) - ((l1 - (G.1 28 2)) - 1) / 2 * 2) = 0 then fX11_isGood_48 G v3.toInt64 48 57 else fX11_isGood_48 G v3.toInt64 48 53
def fX11_faultOf_7 (N : Nat) : Nat → kg_G → Int32 → Option (Int32 × kg_G)
  | 0, _, _ => none
  | n + 1, G, l1 => if (G.1 28 1) ≤ l1 then some (l1, G) else (fX11_isGood G l1).bind fun v1 => if v1.1 = 0 then some (l1, v1.2) else (fX11_faultOf_7 N n) v1.2 (l1 + 1)
def fX11_faultOf (N : Nat) (G : kg_G) : Option (Int32 × kg_G) := fX11_faultOf_7 N N (kg_i G 28 2 (-1)) 0
def fX11_fault (N : Nat) (G : kg_G) : Option (Int32 × kg_G) := (fX11_faultOf N G).bind fun v1 => some (v1.1, v1.2)
def fX11_show_189 (N : Nat) : Nat → kg_G → Int32 → Option (Int32 × kg_G)
  | 0, _, _ => none
  | n + 1, G, l1 => if (G.1 28 4) ≤ l1 then some (G.1 28 3, kg_i (kg_i (kg_i (kg_i (kg_i (kg_i (kg_i (kg_i (kg_i G 28 5 0) 28 6 0) 28 7 0) 28 8 0) 28 9 0) 28 10 0) 28 23 0) 28 11 ((G.1 28 11) + 1)) 28 1 0) else (kv_g (G.2.1 29) (((G.1 28 2) + 1) + (2 * l1))).bind fun v1 => (kv_p (G.2.1 31) (3 * l1) (v1 - 48)).bind fun v2 => (kv_g (G.2.1 29) (((G.1 28 2) + 2) + (2 * l1))).bind fun v3 => (kv_p v2 ((3 * l1) + 1) (v3 - 48)).bind fun v4 => (kv_p v4 ((3 * l1) + 2) 0).bind fun v5 => (fX11_show_189 N n) (kg_a (kg_a (kg_a G 31 v2) 31 v4) 31 v5) (l1 + 1)
def fX11_show_78 (N : Nat) : Nat → kg_G → Int32 → Option (Int32 × kg_G)
  | 0, _, _ => none
  | n + 1, G, l1 => if (G.1 28 3) ≤ l1 then fX11_show_189 N N G 0 else (kv_g (G.2.1 29) (5 * l1)).bind fun v1 => (kv_p (G.2.1 30) (4 * l1) (fX11_kindBy v1)).bind fun v3 => (kv_g (G.2.1 29) ((5 * l1) + 1)).bind fun v4 => (kv_p v3 ((4 * l1) + 1) (v4 - 48)).bind fun v5 => (kv_g (G.2.1 29) ((5 * l1) + 2)).bind fun v6 => (kv_p v5 ((4 * l1) + 2) (v6 - 48)).bind fun v7 => (kv_g (G.2.1 29) ((5 * l1) + 3)).bind fun v8 => (kv_p v7 ((4 * l1) + 3) (v8 - 48)).bind fun v9 => (kv_p (G.2.1 32) l1 0).bind fun v10 => (fX11_show_78 N n) (kg_a (kg_a (kg_a (kg_a (kg_a G 30 v3) 30 v5) 30 v7) 30 v9) 32 v10) (l1 + 1)
def fX11_show (N : Nat) (G : kg_G) : Option (Int32 × kg_G) := (fX11_faultOf N G).bind fun v1 => if v1.1 < (v1.2.1 28 1) then some ((-103), v1.2) else if (v1.2.1 28 2) = (-1) then some ((-103), v1.2) else if ((v1.2.1 28 1) - (v1.2.1 28 2)) < 3 then some ((-103), v1.2) else if (((v1.2.1 28 1) - (v1.2.1 28 2)) - ((v1.2.1 28 1) - (v1.2.1 28 2)) / 2 * 2) = 0 then some ((-103), v1.2) else fX11_show_78 N N (kg_i (kg_i v1.2 28 3 (((v1.2.1 28 2) + 1) / 5)) 28 4 (((v1.2.1 28 1) - (v1.2.1 28 2)) / 2)) 0
def fX11_lacks (G : kg_G) : Int32 := if (G.1 28 3) = 0 then 1 else 0
def fX11_isTrick (G : kg_G) (l1 : Int32) : Option (Int32) := if (fX11_in l1.toInt64 0 (((G.1 28 3) - 1).toInt64)) &&& 1 = (fX11_in l1.toInt64 0 (((G.1 28 3) - 1).toInt64)) then some (fX11_in l1.toInt64 0 (((G.1 28 3) - 1).toInt64)) else none
def fX11_isPerson (G : kg_G) (l1 : Int32) : Option (Int32) := if (fX11_in l1.toInt64 0 (((G.1 28 4) - 1).toInt64)) &&& 1 = (fX11_in l1.toInt64 0 (((G.1 28 4) - 1).toInt64)) then some (fX11_in l1.toInt64 0 (((G.1 28 4) - 1).toInt64)) else none
def fX11_isKept (G : kg_G) (l1 : Int32) : Option (Int32) := (kv_g (G.2.1 31) ((3 * l1) + 1)).bind fun v1 => if v1 = (-1) then some 0 else some 1
def fX11_keptSet_4 (N : Nat) (G : kg_G) : Nat → Int32 → Int32 → Option (Int32)
  | 0, _, _ => none
  | n + 1, l1, l2 => if (G.1 28 4) ≤ l2 then some l1 else (fX11_isKept G l2).bind fun v1 => if v1 = 0 then (fX11_keptSet_4 N G n) (l1 ||| 0) (l2 + 1) else (fX11_keptSet_4 N G n) (l1 ||| (1 <<< (l2 &&& 31))) (l2 + 1)
def fX11_keptSet (N : Nat) (G : kg_G) : Option (Int32) := fX11_keptSet_4 N G N 0 0
def fX11_wantsOf (G : kg_G) (l1 : Int32) : Option (Int32) := (kv_g (G.2.1 30) (4 * l1)).bind fun v1 => if v1 = 1 then some 2 else (kv_g (G.2.1 30) (4 * l1)).bind fun v2 => if v2 = 4 then some 2 else some 1
def fX11_fitsBy (G : kg_G) (l1 : Int32) (l2 : Int32) : Option (Int32) := (kv_g (G.2.1 30) (4 * l2)).bind fun v1 => (kv_g (G.2.1 30) ((4 * l2) + 3)).bind fun v2 => if v1 = 4 then some 1 else if v1 = 2 then if v2 < l1 then some 0 else some 1 else if l1 < v2 then some 0 else some 1
def fX11_fittingSet_4 (N : Nat) (G : kg_G) : Nat → Int32 → Int32 → Int32 → Option (Int32)
  | 0, _, _, _ => none
  | n + 1, l1, l2, l3 => if (G.1 28 4) ≤ l3 then some l2 else (fX11_isKept G l3).bind fun v1 => if v1 = 0 then (fX11_fittingSet_4 N G n) l1 (l2 ||| 0) (l3 + 1) else (kv_g (G.2.1 31) (3 * l3)).bind fun v2 => (fX11_fitsBy G v2 l1).bind fun v3 => if v3 = 0 then (fX11_fittingSet_4 N G n) l1 (l2 ||| 0) (l3 + 1) else (fX11_fittingSet_4 N G n) l1 (l2 ||| (1 <<< (l3 &&& 31))) (l3 + 1)
def fX11_fittingSet (N : Nat) (G : kg_G) (l1 : Int32) : Option (Int32) := fX11_fittingSet_4 N G N l1 0 0
def fX11_strongAll_4 (N : Nat) (G : kg_G) : Nat → Int32 → Int32 → Int32 → Option (Int32)
  | 0, _, _, _ => none
  | n + 1, l1, l2, l3 => if (G.1 28 4) ≤ l3 then some l2 else (kv_g (G.2.1 31) (3 * l3)).bind fun v1 => (fX11_strongAll_4 N G n) l1 (l2 + (((l1 >>> (l3 &&& 31)) &&& 1) * v1)) (l3 + 1)
def fX11_strongAll (N : Nat) (G : kg_G) (l1 : Int32) : Option (Int32) := fX11_strongAll_4 N G N l1 0 0
def fX11_isDoneBy_35 (N : Nat) (G : kg_G) (l1 : Int32) (l2 : Int32) (s0 : Int32) : Option (Int32) := (fX11_ones N l2).bind fun v1 => (fX11_wantsOf G l1).bind fun v2 => if v1 = v2 then (fX11_fittingSet N G l1).bind fun v3 => if (l2 &&& (v3 ^^^ (-1))) = 0 then if s0 = 0 then some 0 else some 1 else some 0 else some 0
def fX11_isDoneBy_30 (N : Nat) (G : kg_G) (l1 : Int32) (l2 : Int32) : Option (Int32) := fX11_isDoneBy_35 N G l1 l2 1
def fX11_isDoneBy (N : Nat) (G : kg_G) (l1 : Int32) (l2 : Int32) : Option (Int32) := (kv_g (G.2.1 30) (4 * l1)).bind fun v1 => if v1 = 4 then (fX11_strongAll N G l2).bind fun v2 => (kv_g (G.2.1 30) ((4 * l1) + 3)).bind fun v3 => if v2 < v3 then fX11_isDoneBy_35 N G l1 l2 0 else fX11_isDoneBy_30 N G l1 l2 else fX11_isDoneBy_30 N G l1 l2
def fX11_hoursOf (G : kg_G) (l1 : Int32) : Option (Int32) := (kv_g (G.2.1 30) ((4 * l1) + 2)).bind fun v1 => (kv_g (G.2.1 30) ((4 * l1) + 1)).bind fun v2 => some (((1 <<< (v1 &&& 31)) - 1) <<< (v2 &&& 31))
def fX11_busyBy (G : kg_G) (l1 : Int32) : Option (Int32) := (fX11_hoursOf G l1).bind fun v1 => (kv_g (G.2.1 30) (4 * l1)).bind fun v2 => if v2 = 3 then some (v1 ||| (v1 <<< (1 &&& 31))) else some v1
def fX11_clash (G : kg_G) (l1 : Int32) (l2 : Int32) : Option (Int32) := if l1 = l2 then some 0 else (fX11_busyBy G l1).bind fun v1 => (fX11_busyBy G l2).bind fun v2 => if (v1 &&& v2) = 0 then some 0 else some 1
def fX11_clashSet_4 (N : Nat) (G : kg_G) : Nat → Int32 → Int32 → Int32 → Option (Int32)
  | 0, _, _, _ => none
  | n + 1, l1, l2, l3 => if (G.1 28 3) ≤ l3 then some l2 else (fX11_clash G l1 l3).bind fun v1 => if v1 = 0 then (fX11_clashSet_4 N G n) l1 (l2 ||| 0) (l3 + 1) else (fX11_clashSet_4 N G n) l1 (l2 ||| (1 <<< (l3 &&& 31))) (l3 + 1)
def fX11_clashSet (N : Nat) (G : kg_G) (l1 : Int32) : Option (Int32) := fX11_clashSet_4 N G N l1 0 0
def fX11_tellTrick (N : Nat) (G : kg_G) (l1 : Int32) (l2 : Int32) : Option (Int32) := if l2 = 0 then (kv_g (G.2.1 30) ((4 * l1) + l2)).bind fun v1 => some v1 else if l2 = 1 then (kv_g (G.2.1 30) ((4 * l1) + l2)).bind fun v2 => some v2 else if l2 = 2 then (kv_g (G.2.1 30) ((4 * l1) + l2)).bind fun v3 => some v3 else if l2 = 3 then (kv_g (G.2.1 30) ((4 * l1) + l2)).bind fun v4 => some v4 else if l2 = 4 then (fX11_wantsOf G l1).bind fun v5 => some v5 else if l2 = 5 then (kv_g (G.2.1 32) l1).bind fun v6 => some v6 else if l2 = 6 then (kv_g (G.2.1 32) l1).bind fun v7 => (fX11_isDoneBy N G l1 v7).bind fun v8 => if v8 = 0 then some 0 else some 1 else if l2 = 7 then (fX11_fittingSet N G l1).bind fun v9 => some v9 else if l2 = 8 then (fX11_clashSet N G l1).bind fun v10 => some v10 else some (-102)
def fX11_trick (N : Nat) (G : kg_G) (l1 : Int32) (l2 : Int32) : Option (Int32) := (fX11_isTrick G l1).bind fun v1 => if v1 = 0 then some (-101) else (fX11_tellTrick N G l1 l2).bind fun v2 => some v2
def fX11_as_59 (G : kg_G) (l1 : Int32) (s0 : Int32) : Option (Int32) := if s0 = 0 then some (-1) else some l1
def fX11_as_54 (G : kg_G) (l1 : Int32) : Option (Int32) := fX11_as_59 G l1 1
def fX11_as_58 (G : kg_G) (l1 : Int32) : Option (Int32) := fX11_as_59 G l1 0
def fX11_as (G : kg_G) (l1 : Int32) (l2 : Int32) : Option (Int32) := (fX11_isTrick G l1).bind fun v1 => if v1 = 0 then some (-101) else if (fX11_in l2.toInt64 0 4) = 0 then some (-102) else (kv_g (G.2.1 30) (4 * l1)).bind fun v3 => if l2 = 0 then fX11_as_54 G l1 else if l2 = v3 then fX11_as_54 G l1 else if l2 = 1 then if v3 = 4 then fX11_as_54 G l1 else fX11_as_58 G l1 else fX11_as_58 G l1
def fX11_castSet_4 (N : Nat) (G : kg_G) : Nat → Int32 → Int32 → Int32 → Option (Int32)
  | 0, _, _, _ => none
  | n + 1, l1, l2, l3 => if (G.1 28 3) ≤ l3 then some l2 else (kv_g (G.2.1 32) l3).bind fun v1 => (fX11_castSet_4 N G n) l1 (l2 ||| (((v1 >>> (l1 &&& 31)) &&& 1) <<< (l3 &&& 31))) (l3 + 1)
def fX11_castSet (N : Nat) (G : kg_G) (l1 : Int32) : Option (Int32) := fX11_castSet_4 N G N l1 0 0
def fX11_busySet_4 (N : Nat) (G : kg_G) : Nat → Int32 → Int32 → Int32 → Option (Int32)
  | 0, _, _, _ => none
  | n + 1, l1, l2, l3 => if (G.1 28 3) ≤ l3 then some l2 else (kv_g (G.2.1 32) l3).bind fun v1 => if ((v1 >>> (l1 &&& 31)) &&& 1) = 1 then (fX11_busyBy G l3).bind fun v2 => (fX11_busySet_4 N G n) l1 (l2 ||| v2) (l3 + 1) else (fX11_busySet_4 N G n) l1 (l2 ||| 0) (l3 + 1)
def fX11_busySet (N : Nat) (G : kg_G) (l1 : Int32) : Option (Int32) := fX11_busySet_4 N G N l1 0 0
def fX11_strongsOf_79 (N : Nat) (G : kg_G) (k4 : Int32 → Int32 → Int32 → Option (Int32)) (k16 : Int32 → Int32 → Int32 → Int32 → Int32 → Option (Int32)) (l1 : Int32) (l2 : Int32) (l3 : Int32) (l5 : Int32) (s0 : Int32) (s1 : Int32) : Option (Int32) := if s0 = s1 then k16 l1 l2 l3 1 (l5 + 3) else k16 l1 l2 l3 0 (l5 + 3)
def fX11_strongsOf_16 (N : Nat) (G : kg_G) (k4 : Int32 → Int32 → Int32 → Option (Int32)) : Nat → Int32 → Int32 → Int32 → Int32 → Int32 → Option (Int32)
  | 0, _, _, _, _, _ => none
  | n + 1, l1, l2, l3, l4, l5 => if (3 * (G.1 28 23)) ≤ l5 then if l4 = 0 then k4 l1 (l2 ||| 0) (l3 + 1) else k4 l1 (l2 ||| (1 <<< (l3 &&& 31))) (l3 + 1) else (kv_g (G.2.1 38) (l5 + 1)).bind fun v1 => (fX11_fitsBy G l3 v1).bind fun v2 => if l4 = 0 then (fX11_strongsOf_16 N G k4 n) l1 l2 l3 0 (l5 + 3) else (kv_g (G.2.1 38) l5).bind fun v3 => if v3 = l1 then (kv_g (G.2.1 38) (l5 + 2)).bind fun v4 => if v4 = 1 then fX11_strongsOf_79 N G k4 (fX11_strongsOf_16 N G k4 n) l1 l2 l3 l5 v2 1 else fX11_strongsOf_79 N G k4 (fX11_strongsOf_16 N G k4 n) l1 l2 l3 l5 v2 0 else (fX11_strongsOf_16 N G k4 n) l1 l2 l3 1 (l5 + 3)
def fX11_strongsOf_4 (N : Nat) (G : kg_G) : Nat → Int32 → Int32 → Int32 → Option (Int32)
  | 0, _, _, _ => none
  | n + 1, l1, l2, l3 => if 10 ≤ l3 then some l2 else fX11_strongsOf_16 N G (fX11_strongsOf_4 N G n) N l1 l2 l3 1 0
def fX11_strongsOf (N : Nat) (G : kg_G) (l1 : Int32) : Option (Int32) := fX11_strongsOf_4 N G N l1 0 0
def fX11_tryOf_111 (N : Nat) (G : kg_G) (k15 : Int32 → Int32 → Int32 → Int32 → Option (Int32)) (l2 : Int32) (l4 : Int32) (l5 : Int32) (l8 : Int32) (s0 : Int32) : Option (Int32) := if l4 ≤ l8 then k15 l2 s0 l4 (l5 + 1) else k15 l2 s0 l8 (l5 + 1)
def fX11_tryOf_96 (N : Nat) (G : kg_G) (k15 : Int32 → Int32 → Int32 → Int32 → Option (Int32)) (l2 : Int32) (l3 : Int32) (l4 : Int32) (l5 : Int32) (s0 : Int32) : Option (Int32) := if l4 ≤ s0 then fX11_tryOf_111 N G k15 l2 l4 l5 s0 l3 else fX11_tryOf_111 N G k15 l2 l4 l5 s0 l5
def fX11_tryOf_34 (N : Nat) (G : kg_G) (k15 : Int32 → Int32 → Int32 → Int32 → Option (Int32)) : Nat → Int32 → Int32 → Int32 → Int32 → Int32 → Int32 → Option (Int32)
  | 0, _, _, _, _, _, _ => none
  | n + 1, l2, l3, l4, l5, l6, l7 => if 10 ≤ l7 then (fX11_ones N l2).bind fun v1 => if l6 ≤ (v1 - l6) then fX11_tryOf_96 N G k15 l2 l3 l4 l5 (v1 - l6) else fX11_tryOf_96 N G k15 l2 l3 l4 l5 l6 else (fX11_fitsBy G l7 l5).bind fun v2 => if v2 = 0 then (fX11_tryOf_34 N G k15 n) l2 l3 l4 l5 (l6 + 0) (l7 + 1) else (fX11_tryOf_34 N G k15 n) l2 l3 l4 l5 (l6 + ((l2 >>> (l7 &&& 31)) &&& 1)) (l7 + 1)
def fX11_tryOf_15 (N : Nat) (G : kg_G) : Nat → Int32 → Int32 → Int32 → Int32 → Option (Int32)
  | 0, _, _, _, _ => none
  | n + 1, l2, l3, l4, l5 => if (G.1 28 3) ≤ l5 then some l3 else if l2 = 0 then some l3 else fX11_tryOf_34 N G (fX11_tryOf_15 N G n) N l2 l3 l4 l5 0 0
def fX11_tryOf (N : Nat) (G : kg_G) (l1 : Int32) : Option (Int32) := (fX11_strongsOf N G l1).bind fun v1 => fX11_tryOf_15 N G N v1 (-1) 11 0
def fX11_tellPerson (N : Nat) (G : kg_G) (l1 : Int32) (l2 : Int32) : Option (Int32) := if l2 = 0 then (fX11_isKept G l1).bind fun v1 => if v1 = 0 then some (-1) else (kv_g (G.2.1 31) (3 * l1)).bind fun v2 => some v2 else if l2 = 1 then (kv_g (G.2.1 31) ((3 * l1) + 1)).bind fun v3 => some v3 else if l2 = 2 then (fX11_isKept G l1).bind fun v4 => if v4 = 0 then some 0 else some 1 else if l2 = 3 then (fX11_castSet N G l1).bind fun v5 => some v5 else if l2 = 4 then (fX11_busySet N G l1).bind fun v6 => some v6 else if l2 = 5 then (kv_g (G.2.1 31) ((3 * l1) + 2)).bind fun v7 => some v7 else if l2 = 6 then (fX11_strongsOf N G l1).bind fun v8 => some v8 else if l2 = 7 then (fX11_tryOf N G l1).bind fun v9 => some v9 else some (-102)
def fX11_person (N : Nat) (G : kg_G) (l1 : Int32) (l2 : Int32) : Option (Int32) := (fX11_isPerson G l1).bind fun v1 => if v1 = 0 then some (-101) else (fX11_tellPerson N G l1 l2).bind fun v2 => some v2
def fX11_cast_41 (N : Nat) (G : kg_G) (l1 : Int32) (l2 : Int32) (s0 : Int32) : Option (Int32 × kg_G) := (fX11_isKept G l2).bind fun v1 => if v1 = 0 then some ((-103), G) else (kv_g (G.2.1 32) l1).bind fun v2 => if ((v2 >>> (l2 &&& 31)) &&& 1) = 1 then some ((-103), G) else if s0 = 0 then (fX11_castSet N G l2).bind fun v3 => (fX11_clashSet N G l1).bind fun v4 => if (v3 &&& v4) = 0 then (kv_g (G.2.1 32) l1).bind fun v5 => (kv_p (G.2.1 32) l1 (v5 ||| (1 <<< (l2 &&& 31)))).bind fun v6 => (kv_g v6 l1).bind fun v7 => (fX11_ones N v7).bind fun v8 => some (v8, kg_a G 32 v6) else some ((-103), G) else some ((-103), G)
def fX11_cast (N : Nat) (G : kg_G) (l1 : Int32) (l2 : Int32) : Option (Int32 × kg_G) := (fX11_isTrick G l1).bind fun v1 => if v1 = 0 then some ((-101), G) else (fX11_isPerson G l2).bind fun v2 => if v2 = 0 then some ((-101), G) else (kv_g (G.2.1 32) l1).bind fun v3 => (fX11_ones N v3).bind fun v4 => (fX11_wantsOf G l1).bind fun v5 => if v4 = v5 then fX11_cast_41 N G l1 l2 1 else fX11_cast_41 N G l1 l2 0
def fX11_drop (N : Nat) (G : kg_G) (l1 : Int32) (l2 : Int32) : Option (Int32 × kg_G) := (fX11_isTrick G l1).bind fun v1 => if v1 = 0 then some ((-101), G) else (fX11_isPerson G l2).bind fun v2 => if v2 = 0 then some ((-101), G) else (kv_g (G.2.1 32) l1).bind fun v3 => if ((v3 >>> (l2 &&& 31)) &&& 1) = 0 then some ((-103), G) else (kv_g (G.2.1 32) l1).bind fun v4 => (kv_p (G.2.1 32) l1 (v4 - (1 <<< (l2 &&& 31)))).bind fun v5 => (kv_g v5 l1).bind fun v6 => (fX11_ones N v6).bind fun v7 => some (v7, kg_a G 32 v5)
def fX11_clear_4 (N : Nat) : Nat → kg_G → Int32 → Int32 → Option (Int32 × kg_G)
  | 0, _, _, _ => none
  | n + 1, G, l1, l2 => if (G.1 28 3) ≤ l2 then some (l1, G) else (kv_g (G.2.1 32) l2).bind fun v1 => (fX11_ones N v1).bind fun v2 => (kv_p (G.2.1 32) l2 0).bind fun v3 => (fX11_clear_4 N n) (kg_a G 32 v3) (l1 + v2) (l2 + 1)
def fX11_clear (N : Nat) (G : kg_G) : Option (Int32 × kg_G) := fX11_clear_4 N N G 0 0
def fX11_doneNow_4 (N : Nat) (G : kg_G) : Nat → Int32 → Int32 → Option (Int32)
  | 0, _, _ => none
  | n + 1, l1, l2 => if (G.1 28 3) ≤ l2 then some l1 else (kv_g (G.2.1 32) l2).bind fun v1 => (fX11_isDoneBy N G l2 v1).bind fun v2 => if v2 = 0 then (fX11_doneNow_4 N G n) (l1 + 0) (l2 + 1) else (fX11_doneNow_4 N G n) (l1 + 1) (l2 + 1)
def fX11_doneNow (N : Nat) (G : kg_G) : Option (Int32) := fX11_doneNow_4 N G N 0 0
def fX11_night_69 (N : Nat) : Nat → kg_G → Int32 → Int32 → Option (Int32 × kg_G)
  | 0, _, _, _ => none
  | n + 1, G, l1, l2 => if (G.1 28 4) ≤ l2 then (fX11_doneNow N G).bind fun v1 => some (v1, kg_i (kg_i G 28 6 ((G.1 28 6) + 1)) 28 7 ((G.1 28 7) + v1)) else (kv_g (G.2.1 31) ((3 * l2) + 2)).bind fun v2 => (kv_p (G.2.1 31) ((3 * l2) + 2) (v2 + ((l1 >>> (l2 &&& 31)) &&& 1))).bind fun v3 => (fX11_night_69 N n) (kg_a G 31 v3) l1 (l2 + 1)
def fX11_night_26 (N : Nat) : Nat → kg_G → Int32 → Int32 → Option (Int32 × kg_G)
  | 0, _, _, _ => none
  | n + 1, G, l1, l2 => if (G.1 28 3) ≤ l2 then fX11_night_69 N N G l1 0 else (kv_g (G.2.1 32) l2).bind fun v1 => (fX11_isDoneBy N G l2 v1).bind fun v2 => if v2 = 0 then (fX11_night_26 N n) G (l1 ||| 0) (l2 + 1) else (kv_g (G.2.1 32) l2).bind fun v3 => (fX11_night_26 N n) G (l1 ||| v3) (l2 + 1)
def fX11_night (N : Nat) (G : kg_G) : Option (Int32 × kg_G) := if (fX11_lacks G) = 0 then if (G.1 28 6) = 99 then some ((-104), G) else fX11_night_26 N N G 0 0 else some ((-103), G)
def fX11_move_24 (G : kg_G) (s1 : Int32) (s2 : Int32) : Int32 × kg_G := ((s1 + s2) - (s1 + s2) / 6 * 6, kg_i (kg_i G 28 5 ((s1 + s2) - (s1 + s2) / 6 * 6)) 28 8 ((G.1 28 8) + 1))
def fX11_move (G : kg_G) (l1 : Int32) : Int32 × kg_G := if (fX11_lacks G) = 0 then if l1 = 0 then fX11_move_24 G (G.1 28 5) 5 else fX11_move_24 G (G.1 28 5) 1 else ((-103), G)
def fX11_letGo_41 (N : Nat) : Nat → kg_G → Int32 → Int32 → Option (Int32 × kg_G)
  | 0, _, _, _ => none
  | n + 1, G, l1, l2 => if (G.1 28 3) ≤ l2 then (kv_p (G.2.1 31) (3 * l1) (-1)).bind fun v1 => (kv_p v1 ((3 * l1) + 1) (-1)).bind fun v2 => (kv_p v2 ((3 * l1) + 2) 0).bind fun v3 => (fX11_keptSet N (kg_i (kg_a (kg_a (kg_a G 31 v1) 31 v2) 31 v3) 28 10 ((G.1 28 10) + 1))).bind fun v4 => (fX11_ones N v4).bind fun v5 => some (v5, kg_i (kg_a (kg_a (kg_a G 31 v1) 31 v2) 31 v3) 28 10 ((G.1 28 10) + 1)) else (kv_g (G.2.1 32) l2).bind fun v6 => (kv_p (G.2.1 32) l2 (v6 &&& ((1 <<< (l1 &&& 31)) ^^^ (-1)))).bind fun v7 => (fX11_letGo_41 N n) (kg_a G 32 v7) l1 (l2 + 1)
def fX11_letGo (N : Nat) (G : kg_G) (l1 : Int32) : Option (Int32 × kg_G) := (fX11_isPerson G l1).bind fun v1 => if v1 = 0 then some ((-101), G) else (fX11_isKept G l1).bind fun v2 => if v2 = 0 then some ((-103), G) else (kv_g (G.2.1 31) ((3 * l1) + 1)).bind fun v3 => if v3 = (G.1 28 5) then fX11_letGo_41 N N G l1 0 else some ((-103), G)
def fX11_call (N : Nat) (G : kg_G) (l1 : Int32) (l2 : Int32) : Option (Int32 × kg_G) := (fX11_isPerson G l1).bind fun v1 => if v1 = 0 then some ((-101), G) else if (fX11_in l2.toInt64 0 9) = 0 then some ((-102), G) else (fX11_isKept G l1).bind fun v3 => if v3 = 0 then (kv_p (G.2.1 31) (3 * l1) l2).bind fun v4 => (kv_p v4 ((3 * l1) + 1) (G.1 28 5)).bind fun v5 => (kv_p v5 ((3 * l1) + 2) 0).bind fun v6 => (fX11_keptSet N (kg_i (kg_a (kg_a (kg_a G 31 v4) 31 v5) 31 v6) 28 9 ((G.1 28 9) + 1))).bind fun v7 => (fX11_ones N v7).bind fun v8 => some (v8, kg_i (kg_a (kg_a (kg_a G 31 v4) 31 v5) 31 v6) 28 9 ((G.1 28 9) + 1)) else some ((-103), G)
def fX11_layChoices_26 (N : Nat) (k2 : kg_G → Int32 → Int32 → Option (kg_G)) : Nat → kg_G → Int32 → Int32 → Int32 → Option (kg_G)
  | 0, _, _, _, _ => none
  | n + 1, G, l1, l2, l3 => if 32 ≤ l3 then k2 G l1 (l2 + 1) else if (G.1 28 3) ≤ l2 then k2 G l1 (l2 + 1) else if (l3 &&& (l1 ^^^ (-1))) = 0 then (fX11_isDoneBy N G l2 l3).bind fun v1 => if v1 = 0 then (fX11_layChoices_26 N k2 n) G l1 l2 (l3 + 1) else (kv_g (G.2.1 34) l2).bind fun v2 => (kv_p (G.2.1 33) ((16 * l2) + v2) l3).bind fun v3 => (kv_g (G.2.1 34) l2).bind fun v4 => (kv_p (G.2.1 34) l2 (v4 + 1)).bind fun v5 => (fX11_layChoices_26 N k2 n) (kg_a (kg_a G 33 v3) 34 v5) l1 l2 (l3 + 1) else (fX11_layChoices_26 N k2 n) G l1 l2 (l3 + 1)
def fX11_layChoices_2 (N : Nat) : Nat → kg_G → Int32 → Int32 → Option (kg_G)
  | 0, _, _, _ => none
  | n + 1, G, l1, l2 => if 5 ≤ l2 then some G else (kv_p (G.2.1 33) (16 * l2) 0).bind fun v1 => (kv_p (G.2.1 34) l2 1).bind fun v2 => fX11_layChoices_26 N (fX11_layChoices_2 N n) N (kg_a (kg_a G 33 v1) 34 v2) l1 l2 1
def fX11_layChoices (N : Nat) (G : kg_G) (l1 : Int32) : Option (kg_G) := fX11_layChoices_2 N N G l1 0
def fX11_isFree_5 (N : Nat) (G : kg_G) : Nat → Int32 → Int32 → Int32 → Int32 → Option (Int32)
  | 0, _, _, _, _ => none
  | n + 1, l1, l2, l3, l4 => if l1 ≤ l4 then if l3 &&& 1 = l3 then some l3 else none else if l3 = 0 then (fX11_isFree_5 N G n) l1 l2 0 (l4 + 1) else (kv_g (G.2.1 35) l4).bind fun v1 => if (v1 &&& l2) = 0 then (fX11_isFree_5 N G n) l1 l2 1 (l4 + 1) else (fX11_clash G l1 l4).bind fun v2 => if v2 = 0 then (fX11_isFree_5 N G n) l1 l2 1 (l4 + 1) else (fX11_isFree_5 N G n) l1 l2 0 (l4 + 1)
def fX11_isFree (N : Nat) (G : kg_G) (l1 : Int32) (l2 : Int32) : Option (Int32) := fX11_isFree_5 N G N l1 l2 1 0
def fX11_layMost_67 (N : Nat) (k19 : kg_G → Int32 → Int32 → Int32 → Option (Int32 × kg_G)) (G : kg_G) (l2 : Int32) (l3 : Int32) (s0 : Int32) (s1 : Int32) : Option (Int32 × kg_G) := (kv_p (G.2.1 35) l3 0).bind fun v1 => k19 (kg_a G 35 v1) l2 l3 (s0 - s1)
def fX11_layMost_48 (N : Nat) (k19 : kg_G → Int32 → Int32 → Int32 → Option (Int32 × kg_G)) (G : kg_G) (l2 : Int32) (l3 : Int32) (l4 : Int32) : Option (Int32 × kg_G) := (kv_g (G.2.1 35) (l3 + (-1))).bind fun v1 => if v1 = 0 then fX11_layMost_67 N k19 G l2 (l3 + (-1)) l4 0 else fX11_layMost_67 N k19 G l2 (l3 + (-1)) l4 1
def fX11_layMost_128 (N : Nat) (k19 : kg_G → Int32 → Int32 → Int32 → Option (Int32 × kg_G)) (G : kg_G) (l2 : Int32) (l3 : Int32) (s0 : Int32) (s1 : Int32) : Option (Int32 × kg_G) := (kv_p (G.2.1 35) l3 0).bind fun v1 => k19 (kg_a G 35 v1) l2 l3 (s0 - s1)
def fX11_layMost_105 (N : Nat) (k19 : kg_G → Int32 → Int32 → Int32 → Option (Int32 × kg_G)) (G : kg_G) (l2 : Int32) (l3 : Int32) (l4 : Int32) : Option (Int32 × kg_G) := if (l3 + (-1)) < 0 then k19 G l2 (l3 + (-1)) l4 else (kv_g (G.2.1 35) (l3 + (-1))).bind fun v1 => if v1 = 0 then fX11_layMost_128 N k19 G l2 (l3 + (-1)) l4 0 else fX11_layMost_128 N k19 G l2 (l3 + (-1)) l4 1
def fX11_layMost_199 (N : Nat) (k19 : kg_G → Int32 → Int32 → Int32 → Option (Int32 × kg_G)) (G : kg_G) (l2 : Int32) (l3 : Int32) (s0 : Int32) (s1 : Int32) : Option (Int32 × kg_G) := if 5 ≤ (l3 + 1) then k19 G l2 (l3 + 1) (s0 + s1) else (kv_p (G.2.1 37) (l3 + 1) 0).bind fun v1 => k19 (kg_a G 37 v1) l2 (l3 + 1) (s0 + s1)
def fX11_layMost_19 (N : Nat) : Nat → kg_G → Int32 → Int32 → Int32 → Option (Int32 × kg_G)
  | 0, _, _, _, _ => none
  | n + 1, G, l2, l3, l4 => if l3 < 0 then some (l2, G) else if l3 = 5 then if l4 ≤ l2 then fX11_layMost_48 N (fX11_layMost_19 N n) G l2 l3 l4 else (fX11_copy N G 35 36).bind fun v1 => fX11_layMost_48 N (fX11_layMost_19 N n) v1 l4 l3 l4 else (kv_g (G.2.1 37) l3).bind fun v2 => (kv_g (G.2.1 34) l3).bind fun v3 => if v2 = v3 then fX11_layMost_105 N (fX11_layMost_19 N n) G l2 l3 l4 else if l2 < ((l4 + 5) - l3) then (kv_g (G.2.1 37) l3).bind fun v4 => (kv_g (G.2.1 33) ((16 * l3) + v4)).bind fun v5 => (kv_g (G.2.1 37) l3).bind fun v6 => (kv_p (G.2.1 37) l3 (v6 + 1)).bind fun v7 => (fX11_isFree N (kg_a G 37 v7) l3 v5).bind fun v8 => if v8 = 0 then (fX11_layMost_19 N n) (kg_a G 37 v7) l2 l3 l4 else (kv_p (G.2.1 35) l3 v5).bind fun v9 => if v5 = 0 then fX11_layMost_199 N (fX11_layMost_19 N n) (kg_a (kg_a G 37 v7) 35 v9) l2 l3 l4 0 else fX11_layMost_199 N (fX11_layMost_19 N n) (kg_a (kg_a G 37 v7) 35 v9) l2 l3 l4 1 else fX11_layMost_105 N (fX11_layMost_19 N n) G l2 l3 l4
def fX11_layMost (N : Nat) (G : kg_G) (l1 : Int32) : Option (Int32 × kg_G) := (fX11_layChoices N G l1).bind fun v1 => (kv_p (v1.2.1 37) 0 0).bind fun v2 => fX11_layMost_19 N N (kg_a v1 37 v2) (-1) 0 0
def fX11_mostOf (N : Nat) (G : kg_G) (l1 : Int32) : Option (Int32 × kg_G) := (fX11_keptSet N G).bind fun v1 => (fX11_layMost N G v1).bind fun v2 => if l1 = 0 then some (v2.1, v2.2) else (kv_g (v2.2.2.1 36) (l1 - 10)).bind fun v3 => some (v3, v2.2)
def fX11_most_21 (N : Nat) (G : kg_G) (l1 : Int32) : Option (Int32 × kg_G) := if (fX11_lacks G) = 0 then if (G.1 28 15) = 16 then some ((-103), G) else (fX11_mostOf N (kg_i G 28 15 ((G.1 28 15) + 1)) l1).bind fun v2 => some (v2.1, v2.2) else some ((-103), G)
def fX11_most (N : Nat) (G : kg_G) (l1 : Int32) : Option (Int32 × kg_G) := if l1 = 0 then fX11_most_21 N G l1 else if (fX11_in l1.toInt64 10 14) = 0 then some ((-102), G) else fX11_most_21 N G l1
def fX11_fill (N : Nat) (G : kg_G) : Option (Int32 × kg_G) := if (fX11_lacks G) = 0 then if (G.1 28 15) = 16 then some ((-103), G) else (fX11_keptSet N (kg_i G 28 15 ((G.1 28 15) + 1))).bind fun v2 => (fX11_layMost N (kg_i G 28 15 ((G.1 28 15) + 1)) v2).bind fun v3 => (fX11_copy N v3.2 36 32).bind fun v4 => some (v3.1, v4) else some ((-103), G)
def fX11_fewestOf_48 (N : Nat) (k10 : kg_G → Int32 → Int32 → Int32 → Int32 → Option (Int32 × kg_G)) (G : kg_G) (l1 : Int32) (l2 : Int32) (l3 : Int32) (l4 : Int32) (s0 : Int32) : Option (Int32 × kg_G) := if s0 = 0 then k10 G l1 l2 l3 (l4 + 1) else (fX11_layMost N G l4).bind fun v1 => if v1.1 = (v1.2.1 28 3) then k10 v1.2 l1 l2 l4 (l4 + 1) else k10 v1.2 l1 l2 l3 (l4 + 1)
def fX11_fewestOf_43 (N : Nat) (k10 : kg_G → Int32 → Int32 → Int32 → Int32 → Option (Int32 × kg_G)) (G : kg_G) (l1 : Int32) (l2 : Int32) (l3 : Int32) (l4 : Int32) : Option (Int32 × kg_G) := fX11_fewestOf_48 N k10 G l1 l2 l3 l4 1
def fX11_fewestOf_47 (N : Nat) (k10 : kg_G → Int32 → Int32 → Int32 → Int32 → Option (Int32 × kg_G)) (G : kg_G) (l1 : Int32) (l2 : Int32) (l3 : Int32) (l4 : Int32) : Option (Int32 × kg_G) := fX11_fewestOf_48 N k10 G l1 l2 l3 l4 0
def fX11_fewestOf_10 (N : Nat) : Nat → kg_G → Int32 → Int32 → Int32 → Int32 → Option (Int32 × kg_G)
  | 0, _, _, _, _, _ => none
  | n + 1, G, l1, l2, l3, l4 => if 32 ≤ l4 then if l3 = (-1) then some (l3, G) else if l1 = 1 then some (l3, G) else (fX11_ones N l3).bind fun v1 => some (v1, G) else if (l4 &&& (l2 ^^^ (-1))) = 0 then if l3 = (-1) then fX11_fewestOf_43 N (fX11_fewestOf_10 N n) G l1 l2 l3 l4 else (fX11_ones N l4).bind fun v2 => (fX11_ones N l3).bind fun v3 => if v3 ≤ v2 then fX11_fewestOf_47 N (fX11_fewestOf_10 N n) G l1 l2 l3 l4 else fX11_fewestOf_43 N (fX11_fewestOf_10 N n) G l1 l2 l3 l4 else fX11_fewestOf_47 N (fX11_fewestOf_10 N n) G l1 l2 l3 l4
def fX11_fewestOf (N : Nat) (G : kg_G) (l1 : Int32) : Option (Int32 × kg_G) := (fX11_keptSet N G).bind fun v1 => fX11_fewestOf_10 N N G l1 v1 (-1) 0
def fX11_fewest (N : Nat) (G : kg_G) (l1 : Int32) : Option (Int32 × kg_G) := if (fX11_in l1.toInt64 0 1) = 0 then some ((-102), G) else if (fX11_lacks G) = 0 then if (G.1 28 21) = 6 then some ((-103), G) else (fX11_fewestOf N (kg_i G 28 21 ((G.1 28 21) + 1)) l1).bind fun v3 => some (v3.1, v3.2) else some ((-103), G)
def fX11_spareOf_55 (N : Nat) (k16 : kg_G → Int32 → Int32 → Int32 → Int32 → Option (Int32 × kg_G)) (G : kg_G) (l1 : Int32) (l2 : Int32) (l3 : Int32) (l4 : Int32) (s0 : Int32) : Option (Int32 × kg_G) := if s0 = 0 then k16 G l1 l2 (l3 ||| 0) (l4 + 1) else k16 G l1 l2 (l3 ||| (1 <<< (l4 &&& 31))) (l4 + 1)
def fX11_spareOf_54 (N : Nat) (k16 : kg_G → Int32 → Int32 → Int32 → Int32 → Option (Int32 × kg_G)) (G : kg_G) (l1 : Int32) (l2 : Int32) (l3 : Int32) (l4 : Int32) : Option (Int32 × kg_G) := fX11_spareOf_55 N k16 G l1 l2 l3 l4 0
def fX11_spareOf_16 (N : Nat) : Nat → kg_G → Int32 → Int32 → Int32 → Int32 → Option (Int32 × kg_G)
  | 0, _, _, _, _, _ => none
  | n + 1, G, l1, l2, l3, l4 => if (G.1 28 4) ≤ l4 then some (l3, G) else (fX11_isKept G l4).bind fun v1 => if v1 = 0 then fX11_spareOf_54 N (fX11_spareOf_16 N n) G l1 l2 l3 l4 else (fX11_layMost N G (l1 &&& ((1 <<< (l4 &&& 31)) ^^^ (-1)))).bind fun v2 => if v2.1 = l2 then fX11_spareOf_55 N (fX11_spareOf_16 N n) v2.2 l1 l2 l3 l4 1 else fX11_spareOf_54 N (fX11_spareOf_16 N n) v2.2 l1 l2 l3 l4
def fX11_spareOf (N : Nat) (G : kg_G) : Option (Int32 × kg_G) := (fX11_keptSet N G).bind fun v1 => (fX11_layMost N G v1).bind fun v2 => fX11_spareOf_16 N N v2.2 v1 v2.1 0 0
def fX11_spare (N : Nat) (G : kg_G) : Option (Int32 × kg_G) := if (fX11_lacks G) = 0 then if (G.1 28 22) = 6 then some ((-103), G) else (fX11_spareOf N (kg_i G 28 22 ((G.1 28 22) + 1))).bind fun v2 => some (v2.1, v2.2) else some ((-103), G)
def fX11_wantsAt_4 (N : Nat) (G : kg_G) : Nat → Int32 → Int32 → Int32 → Option (Int32)
  | 0, _, _, _ => none
  | n + 1, l1, l2, l3 => if (G.1 28 3) ≤ l3 then some l2 else (fX11_hoursOf G l3).bind fun v1 => (fX11_wantsOf G l3).bind fun v2 => (fX11_wantsAt_4 N G n) l1 (l2 + (((v1 >>> (l1 &&& 31)) &&& 1) * v2)) (l3 + 1)
def fX11_wantsAt (N : Nat) (G : kg_G) (l1 : Int32) : Option (Int32) := fX11_wantsAt_4 N G N l1 0 0
def fX11_wants (N : Nat) (G : kg_G) (l1 : Int32) : Option (Int32) := if (fX11_in l1.toInt64 0 11) = 0 then some (-102) else if (fX11_lacks G) = 0 then (fX11_wantsAt N G l1).bind fun v3 => some v3 else some (-103)
def fX11_bound_4 (N : Nat) (G : kg_G) : Nat → Int32 → Int32 → Option (Int32)
  | 0, _, _ => none
  | n + 1, l1, l2 => if 12 ≤ l2 then some l1 else (fX11_wantsAt N G l2).bind fun v1 => if v1 ≤ l1 then (fX11_bound_4 N G n) l1 (l2 + 1) else (fX11_bound_4 N G n) v1 (l2 + 1)
def fX11_bound (N : Nat) (G : kg_G) : Option (Int32) := fX11_bound_4 N G N 0 0
def fX11_isThrough_5 (N : Nat) : Nat → Int32 → Int32 → Int32 → Int32 → Int32 → Option (Int32)
  | 0, _, _, _, _, _ => none
  | n + 1, l0, l1, l2, l3, l4 => if 6 ≤ l4 then if l3 &&& 1 = l3 then some l3 else none else if l3 = 0 then (fX11_isThrough_5 N n) l0 l1 l2 0 (l4 + 1) else if ((l0 >>> (l4 &&& 31)) &&& 1) = 0 then (fX11_isThrough_5 N n) l0 l1 l2 1 (l4 + 1) else if l4 ≤ l1 then (fX11_isThrough_5 N n) l0 l1 l2 1 (l4 + 1) else if l2 < (6 - l4) then (fX11_isThrough_5 N n) l0 l1 l2 0 (l4 + 1) else (fX11_isThrough_5 N n) l0 l1 l2 1 (l4 + 1)
def fX11_isThrough (N : Nat) (l0 : Int32) (l1 : Int32) (l2 : Int32) : Option (Int32) := fX11_isThrough_5 N N l0 l1 l2 1 1
def fX11_routeOf_195 (N : Nat) (G : kg_G) (k71 : Int32 → Int32 → Int32 → Int32 → Int32 → Option (Int32)) (k81 : Int32 → Int32 → Int32 → Int32 → Int32 → Int32 → Option (Int32)) (l2 : Int32) (l3 : Int32) (l4 : Int32) (l5 : Int32) (l6 : Int32) (l7 : Int32) : Option (Int32) := if l6 = 0 then if l7 = 0 then k81 l2 l3 0 (-1) l6 (l7 + 1) else k81 l2 l3 l4 l5 l6 (l7 + 1) else k81 l2 l3 l4 l5 l6 (l7 + 1)
def fX11_routeOf_176 (N : Nat) (G : kg_G) (k71 : Int32 → Int32 → Int32 → Int32 → Int32 → Option (Int32)) (k81 : Int32 → Int32 → Int32 → Int32 → Int32 → Int32 → Option (Int32)) (l2 : Int32) (l3 : Int32) (l4 : Int32) (l5 : Int32) (l6 : Int32) (l7 : Int32) (l9 : Int32) : Option (Int32) := if l7 ≤ 0 then fX11_routeOf_195 N G k71 k81 l2 l3 l4 l5 l6 l7 else if l4 ≤ l9 then fX11_routeOf_195 N G k71 k81 l2 l3 l4 l5 l6 l7 else fX11_routeOf_195 N G k71 k81 l2 l3 l9 0 l6 l7
def fX11_routeOf_168 (N : Nat) (G : kg_G) (k71 : Int32 → Int32 → Int32 → Int32 → Int32 → Option (Int32)) (k81 : Int32 → Int32 → Int32 → Int32 → Int32 → Int32 → Option (Int32)) (l2 : Int32) (l3 : Int32) (l6 : Int32) (l7 : Int32) (l8 : Int32) (l9 : Int32) (l10 : Int32) : Option (Int32) := fX11_routeOf_176 N G k71 k81 l2 l3 l8 l10 l6 l7 l9
def fX11_routeOf_147 (N : Nat) (G : kg_G) (k71 : Int32 → Int32 → Int32 → Int32 → Int32 → Option (Int32)) (k81 : Int32 → Int32 → Int32 → Int32 → Int32 → Int32 → Option (Int32)) (l2 : Int32) (l3 : Int32) (l4 : Int32) (l5 : Int32) (l6 : Int32) (l7 : Int32) (l8 : Int32) (l9 : Int32) (s0 : Int32) : Option (Int32) := if l6 ≤ 0 then fX11_routeOf_176 N G k71 k81 l2 l3 l4 l5 l6 l7 l9 else if l8 < l4 then fX11_routeOf_168 N G k71 k81 l2 l3 l6 l7 l8 l9 s0 else if l8 = l4 then fX11_routeOf_168 N G k71 k81 l2 l3 l6 l7 l8 l9 s0 else fX11_routeOf_176 N G k71 k81 l2 l3 l4 l5 l6 l7 l9
def fX11_routeOf_135 (N : Nat) (G : kg_G) (k71 : Int32 → Int32 → Int32 → Int32 → Int32 → Option (Int32)) (k81 : Int32 → Int32 → Int32 → Int32 → Int32 → Int32 → Option (Int32)) (l2 : Int32) (l3 : Int32) (l4 : Int32) (l5 : Int32) (l6 : Int32) (l7 : Int32) (l8 : Int32) (s0 : Int32) : Option (Int32) := if l6 = 0 then fX11_routeOf_147 N G k71 k81 l2 l3 l4 l5 l6 l7 l8 s0 (-1) else fX11_routeOf_147 N G k71 k81 l2 l3 l4 l5 l6 l7 l8 s0 1
def fX11_routeOf_116 (N : Nat) (G : kg_G) (k71 : Int32 → Int32 → Int32 → Int32 → Int32 → Option (Int32)) (k81 : Int32 → Int32 → Int32 → Int32 → Int32 → Int32 → Option (Int32)) (l2 : Int32) (l3 : Int32) (l4 : Int32) (l5 : Int32) (l6 : Int32) (l7 : Int32) (s0 : Int32) : Option (Int32) := if l6 = 0 then fX11_routeOf_135 N G k71 k81 l2 l3 l4 l5 l6 l7 s0 l7 else fX11_routeOf_135 N G k71 k81 l2 l3 l4 l5 l6 l7 s0 ((2 * l7) + l6)
def fX11_routeOf_81 (N : Nat) (G : kg_G) (k71 : Int32 → Int32 → Int32 → Int32 → Int32 → Option (Int32)) : Nat → Int32 → Int32 → Int32 → Int32 → Int32 → Int32 → Option (Int32)
  | 0, _, _, _, _, _, _ => none
  | n + 1, l2, l3, l4, l5, l6, l7 => if 6 ≤ l7 then k71 l2 l3 l4 l5 (l6 + 1) else (fX11_isThrough N l3 l6 l7).bind fun v1 => if v1 = 0 then (fX11_routeOf_81 N G k71 n) l2 l3 l4 l5 l6 (l7 + 1) else if l7 = 0 then fX11_routeOf_116 N G k71 (fX11_routeOf_81 N G k71 n) l2 l3 l4 l5 l6 l7 l6 else fX11_routeOf_116 N G k71 (fX11_routeOf_81 N G k71 n) l2 l3 l4 l5 l6 l7 ((2 * l6) + l7)
def fX11_routeOf_71 (N : Nat) (G : kg_G) : Nat → Int32 → Int32 → Int32 → Int32 → Int32 → Option (Int32)
  | 0, _, _, _, _, _ => none
  | n + 1, l2, l3, l4, l5, l6 => if 6 ≤ l6 then if l2 = 0 then some l4 else some l5 else fX11_routeOf_81 N G (fX11_routeOf_71 N G n) N l2 l3 l4 l5 l6 0
def fX11_routeOf_5 (N : Nat) (G : kg_G) : Nat → Int32 → Int32 → Int32 → Int32 → Option (Int32)
  | 0, _, _, _, _ => none
  | n + 1, l1, l2, l3, l4 => if (G.1 28 4) ≤ l4 then fX11_routeOf_71 N G N l2 l3 99 (-1) 0 else if ((l1 >>> (l4 &&& 31)) &&& 1) = 1 then (kv_g (G.2.1 31) ((3 * l4) + 1)).bind fun v1 => (fX11_routeOf_5 N G n) l1 l2 (l3 ||| (1 <<< ((((v1 - (G.1 28 5)) + 6) - ((v1 - (G.1 28 5)) + 6) / 6 * 6) &&& 31))) (l4 + 1) else (fX11_routeOf_5 N G n) l1 l2 (l3 ||| 0) (l4 + 1)
def fX11_routeOf (N : Nat) (G : kg_G) (l1 : Int32) (l2 : Int32) : Option (Int32) := fX11_routeOf_5 N G N l1 l2 0 0
def fX11_route (N : Nat) (G : kg_G) (l1 : Int32) (l2 : Int32) : Option (Int32) := if l1 < 1 then some (-102) else if (fX11_lacks G) = 0 then if 31 < l1 then some (-102) else (fX11_keptSet N G).bind fun v2 => if (l1 &&& (v2 ^^^ (-1))) = 0 then if (fX11_in l2.toInt64 0 1) = 0 then some (-102) else (fX11_routeOf N G l1 l2).bind fun v4 => some v4 else some (-102) else some (-102)
def fX11_see_78 (G : kg_G) (s1 : Int32) (s2 : Int32) : Option (Int32 × kg_G) := (kv_p (G.2.1 38) s1 s2).bind fun v1 => some ((G.1 28 23) + 1, kg_i (kg_a G 38 v1) 28 23 ((G.1 28 23) + 1))
def fX11_see (G : kg_G) (l1 : Int32) (l2 : Int32) (l3 : Int32) : Option (Int32 × kg_G) := (fX11_isPerson G l1).bind fun v1 => if v1 = 0 then some ((-101), G) else (fX11_isTrick G l2).bind fun v2 => if v2 = 0 then some ((-101), G) else if (G.1 28 23) = 8 then some ((-104), G) else (kv_p (G.2.1 38) (3 * (G.1 28 23)) l1).bind fun v3 => (kv_p v3 ((3 * (G.1 28 23)) + 1) l2).bind fun v4 => if l3 = 0 then fX11_see_78 (kg_a (kg_a G 38 v3) 38 v4) ((3 * (G.1 28 23)) + 2) 0 else fX11_see_78 (kg_a (kg_a G 38 v3) 38 v4) ((3 * (G.1 28 23)) + 2) 1
def fX11_forget (G : kg_G) : Int32 × kg_G := (G.1 28 23, kg_i G 28 23 0)
def fX11_draw (G : kg_G) (l1 : Int32) : Option (Int32 × kg_G) := if l1 = 0 then none else some ((((((1103515245 * ((G.1 28 25).toInt64)) + 12345) &&& 2147483647).toInt32) / 65536) - (((((1103515245 * ((G.1 28 25).toInt64)) + 12345) &&& 2147483647).toInt32) / 65536) / l1 * l1, kg_i G 28 25 ((((1103515245 * ((G.1 28 25).toInt64)) + 12345) &&& 2147483647).toInt32))
def fX11_takesLine_155 (N : Nat) : Nat → kg_G → Int32 → Int32 → Int32 → Int32 → Option (Int32 × kg_G)
  | 0, _, _, _, _, _ => none
  | n + 1, G, l1, l2, l4, l5 => if (G.1 28 29) ≤ l5 then if l4 &&& 1 = l4 then some (l4, G) else none else if ((l2 >>> (l5 &&& 31)) &&& 1) = 1 then (kv_g (G.2.1 40) l5).bind fun v1 => (kv_p (G.2.1 40) l5 (v1 ||| (1 <<< (l1 &&& 31)))).bind fun v2 => if l4 = 0 then (kv_g (G.2.1 41) l5).bind fun v3 => (kv_p (G.2.1 41) l5 v3).bind fun v4 => (fX11_takesLine_155 N n) (kg_a (kg_a G 40 v2) 41 v4) l1 l2 l4 (l5 + 1) else (kv_p (G.2.1 41) l5 1).bind fun v5 => (fX11_takesLine_155 N n) (kg_a (kg_a G 40 v2) 41 v5) l1 l2 l4 (l5 + 1) else (fX11_takesLine_155 N n) G l1 l2 l4 (l5 + 1)
def fX11_takesLine_80 (N : Nat) (k7 : kg_G → Int32 → Int32 → Int32 → Int32 → Option (Int32 × kg_G)) (G : kg_G) (l1 : Int32) (l3 : Int32) (l4 : Int32) (l5 : Int32) (s0 : Int32) (s1 : Int32) : Option (Int32 × kg_G) := if l5 = 0 then k7 G l1 (s0 ||| s1) (l3 + 0) (l4 + 1) else (kv_g (G.2.1 39) l4).bind fun v1 => k7 G l1 (s0 ||| s1) (l3 + v1) (l4 + 1)
def fX11_takesLine_64 (N : Nat) (k7 : kg_G → Int32 → Int32 → Int32 → Int32 → Option (Int32 × kg_G)) (G : kg_G) (l1 : Int32) (l2 : Int32) (l3 : Int32) (l4 : Int32) (s0 : Int32) : Option (Int32 × kg_G) := if s0 = 0 then fX11_takesLine_80 N k7 G l1 l3 l4 s0 l2 0 else fX11_takesLine_80 N k7 G l1 l3 l4 s0 l2 (1 <<< (l4 &&& 31))
def fX11_takesLine_63 (N : Nat) (k7 : kg_G → Int32 → Int32 → Int32 → Int32 → Option (Int32 × kg_G)) (G : kg_G) (l1 : Int32) (l2 : Int32) (l3 : Int32) (l4 : Int32) : Option (Int32 × kg_G) := fX11_takesLine_64 N k7 G l1 l2 l3 l4 0
def fX11_takesLine_7 (N : Nat) : Nat → kg_G → Int32 → Int32 → Int32 → Int32 → Option (Int32 × kg_G)
  | 0, _, _, _, _, _ => none
  | n + 1, G, l1, l2, l3, l4 => if (G.1 28 29) ≤ l4 then (fX11_ones N l2).bind fun v1 => (fX11_wantsOf G l1).bind fun v2 => if v1 = v2 then (kv_g (G.2.1 30) (4 * l1)).bind fun v3 => if v3 = 4 then (kv_g (G.2.1 30) ((4 * l1) + 3)).bind fun v4 => if l3 < v4 then fX11_takesLine_155 N N G l1 l2 0 0 else fX11_takesLine_155 N N G l1 l2 1 0 else fX11_takesLine_155 N N G l1 l2 1 0 else fX11_takesLine_155 N N G l1 l2 0 0 else (fX11_ones N l2).bind fun v5 => (fX11_wantsOf G l1).bind fun v6 => if v6 ≤ v5 then fX11_takesLine_63 N (fX11_takesLine_7 N n) G l1 l2 l3 l4 else (kv_g (G.2.1 39) l4).bind fun v7 => (fX11_fitsBy G v7 l1).bind fun v8 => if v8 = 0 then fX11_takesLine_63 N (fX11_takesLine_7 N n) G l1 l2 l3 l4 else (kv_g (G.2.1 40) l4).bind fun v9 => (fX11_clashSet N G l1).bind fun v10 => if (v9 &&& v10) = 0 then fX11_takesLine_64 N (fX11_takesLine_7 N n) G l1 l2 l3 l4 1 else fX11_takesLine_63 N (fX11_takesLine_7 N n) G l1 l2 l3 l4
def fX11_takesLine (N : Nat) (G : kg_G) (l1 : Int32) : Option (Int32 × kg_G) := fX11_takesLine_7 N N G l1 0 0 0
def fX11_letLineGo_38 (N : Nat) : Nat → kg_G → Int32 → Option (Int32 × kg_G)
  | 0, _, _ => none
  | n + 1, G, l2 => if (G.1 28 29) ≤ (l2 + 1) then some (1, kg_i G 28 29 ((G.1 28 29) - 1)) else (kv_g (G.2.1 39) (l2 + 1)).bind fun v1 => (kv_p (G.2.1 39) l2 v1).bind fun v2 => (fX11_letLineGo_38 N n) (kg_a G 39 v2) (l2 + 1)
def fX11_letLineGo_26 (N : Nat) (G : kg_G) (l1 : Int32) : Option (Int32 × kg_G) := if l1 = (G.1 28 29) then some (0, G) else fX11_letLineGo_38 N N G l1
def fX11_letLineGo_2 (N : Nat) : Nat → kg_G → Int32 → Option (Int32 × kg_G)
  | 0, _, _ => none
  | n + 1, G, l1 => if (G.1 28 29) ≤ l1 then fX11_letLineGo_26 N G l1 else (kv_g (G.2.1 41) l1).bind fun v1 => if v1 = 1 then (fX11_letLineGo_2 N n) G (l1 + 1) else fX11_letLineGo_26 N G l1
def fX11_letLineGo (N : Nat) (G : kg_G) : Option (Int32 × kg_G) := fX11_letLineGo_2 N N G 0
def fX11_tours_137 (N : Nat) (k60 : kg_G → Int32 → Int32 → Int32 → Int32 → Int32 → Option (Int32 × kg_G)) : Nat → kg_G → Int32 → Int32 → Int32 → Int32 → Int32 → Int32 → Option (Int32 × kg_G)
  | 0, _, _, _, _, _, _, _ => none
  | n + 1, G, l1, l3, l4, l5, l6, l8 => if (G.1 28 3) ≤ l8 then (fX11_letLineGo N G).bind fun v1 => k60 v1.2 l1 l3 l4 (l5 + v1.1) (l6 + 1) else (fX11_takesLine N G l8).bind fun v2 => if v2.1 = 0 then (fX11_tours_137 N k60 n) v2.2 l1 l3 (l4 + 0) l5 l6 (l8 + 1) else (fX11_tours_137 N k60 n) v2.2 l1 l3 (l4 + 1) l5 l6 (l8 + 1)
def fX11_tours_106 (N : Nat) (k60 : kg_G → Int32 → Int32 → Int32 → Int32 → Int32 → Option (Int32 × kg_G)) : Nat → kg_G → Int32 → Int32 → Int32 → Int32 → Int32 → Int32 → Option (Int32 × kg_G)
  | 0, _, _, _, _, _, _, _ => none
  | n + 1, G, l1, l3, l4, l5, l6, l8 => if 5 ≤ l8 then fX11_tours_137 N k60 N G l1 l3 l4 l5 l6 0 else (kv_p (G.2.1 40) l8 0).bind fun v1 => (kv_p (G.2.1 41) l8 0).bind fun v2 => (fX11_tours_106 N k60 n) (kg_a (kg_a G 40 v1) 41 v2) l1 l3 l4 l5 l6 (l8 + 1)
def fX11_tours_60 (N : Nat) : Nat → kg_G → Int32 → Int32 → Int32 → Int32 → Int32 → Option (Int32 × kg_G)
  | 0, _, _, _, _, _, _ => none
  | n + 1, G, l1, l3, l4, l5, l6 => if l1 ≤ l6 then if l3 = 0 then some (l4, G) else if l3 = 1 then some (l5, G) else some (G.1 28 25, G) else (fX11_draw G 10).bind fun v1 => if 5 ≤ (v1.2.1 28 29) then fX11_tours_106 N (fX11_tours_60 N n) N v1.2 l1 l3 l4 l5 l6 0 else (kv_p (v1.2.2.1 39) (v1.2.1 28 29) v1.1).bind fun v2 => fX11_tours_106 N (fX11_tours_60 N n) N (kg_i (kg_a v1.2 39 v2) 28 29 ((v1.2.1 28 29) + 1)) l1 l3 l4 l5 l6 0
def fX11_tours (N : Nat) (G : kg_G) (l1 : Int32) (l2 : Int32) (l3 : Int32) : Option (Int32 × kg_G) := if (fX11_in l1.toInt64 1 40) = 0 then some ((-102), G) else if l2 < 0 then some ((-102), G) else if (fX11_in l3.toInt64 0 2) = 0 then some ((-102), G) else if (fX11_lacks G) = 0 then fX11_tours_60 N N (kg_i (kg_i G 28 25 l2) 28 29 0) l1 l3 0 0 0 else some ((-103), G)
def fX11_image (N : Nat) (G : kg_G) : Option (Int32 × kg_G) := if (fX11_lacks G) = 0 then (fX11_copy N G 31 42).bind fun v2 => (fX11_copy N v2 32 43).bind fun v3 => (fX11_copy N v3 38 44).bind fun v4 => some (v4.1 28 6, kg_i (kg_i (kg_i (kg_i (kg_i (kg_i (kg_i (kg_i v4 28 31 (v4.1 28 5)) 28 32 (v4.1 28 6)) 28 33 (v4.1 28 7)) 28 34 (v4.1 28 8)) 28 35 (v4.1 28 9)) 28 36 (v4.1 28 10)) 28 37 (v4.1 28 23)) 28 30 (v4.1 28 11)) else some ((-103), G)
def fX11_restore (N : Nat) (G : kg_G) : Option (Int32 × kg_G) := if (G.1 28 30) = (G.1 28 11) then (fX11_copy N G 42 31).bind fun v1 => (fX11_copy N v1 43 32).bind fun v2 => (fX11_copy N v2 44 38).bind fun v3 => some (v3.1 28 32, kg_i (kg_i (kg_i (kg_i (kg_i (kg_i (kg_i v3 28 5 (v3.1 28 31)) 28 6 (v3.1 28 32)) 28 7 (v3.1 28 33)) 28 8 (v3.1 28 34)) 28 9 (v3.1 28 35)) 28 10 (v3.1 28 36)) 28 23 (v3.1 28 37)) else some ((-103), G)
def fX11_countMore (G : kg_G) (l1 : Int32) : Int32 := if l1 = 9 then G.1 28 9 else if l1 = 10 then G.1 28 10 else if l1 = 11 then G.1 28 23 else if l1 = 12 then G.1 28 1 else if l1 = 13 then G.1 28 11 else if l1 = 14 then G.1 28 15 else if l1 = 15 then G.1 28 21 else if l1 = 16 then G.1 28 22 else (-102)
def fX11_countOf (N : Nat) (G : kg_G) (l1 : Int32) : Option (Int32) := if l1 = 0 then some (G.1 28 3) else if l1 = 1 then some (G.1 28 4) else if l1 = 2 then (fX11_keptSet N G).bind fun v1 => (fX11_ones N v1).bind fun v2 => some v2 else if l1 = 3 then (fX11_doneNow N G).bind fun v3 => some v3 else if l1 = 4 then (fX11_bound N G).bind fun v4 => some v4 else if l1 = 5 then some (G.1 28 6) else if l1 = 6 then some (G.1 28 7) else if l1 = 7 then some (G.1 28 8) else if l1 = 8 then some (G.1 28 5) else some (fX11_countMore G l1)
def fX11_count (N : Nat) (G : kg_G) (l1 : Int32) : Option (Int32) := (fX11_countOf N G l1).bind fun v1 => some v1
def fX11_say (G : kg_G) (l1 : Int64) : kg_G := kg_h G ((31 * G.2.2.1) + l1)
def fX11_digest_184 (N : Nat) : Nat → kg_G → Int32 → Option (Int64 × kg_G)
  | 0, _, _ => none
  | n + 1, G, l1 => if 17 ≤ l1 then some (G.2.2.1, G) else (fX11_countOf N G l1).bind fun v1 => (fX11_digest_184 N n) (fX11_say G v1.toInt64) (l1 + 1)
def fX11_digest_157 (N : Nat) : Nat → kg_G → Int32 → Option (Int64 × kg_G)
  | 0, _, _ => none
  | n + 1, G, l1 => if (G.1 28 1) ≤ l1 then fX11_digest_184 N N G 0 else (kv_g (G.2.1 29) l1).bind fun v1 => (fX11_digest_157 N n) (fX11_say G v1.toInt64) (l1 + 1)
def fX11_digest_120 (N : Nat) (G : kg_G) : Option (Int64 × kg_G) := (fX11_keptSet N G).bind fun v1 => if v1 = 0 then fX11_digest_157 N N G 0 else (fX11_keptSet N G).bind fun v2 => (fX11_routeOf N G v2 0).bind fun v3 => (fX11_keptSet N (fX11_say G v3.toInt64)).bind fun v5 => (fX11_routeOf N (fX11_say G v3.toInt64) v5 1).bind fun v6 => fX11_digest_157 N N (fX11_say (fX11_say G v3.toInt64) v6.toInt64) 0
def fX11_digest_91 (N : Nat) : Nat → kg_G → Int32 → Option (Int64 × kg_G)
  | 0, _, _ => none
  | n + 1, G, l1 => if 12 ≤ l1 then fX11_digest_120 N G else if (fX11_lacks G) = 0 then (fX11_wantsAt N G l1).bind fun v2 => (fX11_digest_91 N n) (fX11_say G v2.toInt64) (l1 + 1) else fX11_digest_120 N G
def fX11_digest_60 (N : Nat) (k50 : kg_G → Int32 → Option (Int64 × kg_G)) : Nat → kg_G → Int32 → Int32 → Option (Int64 × kg_G)
  | 0, _, _, _ => none
  | n + 1, G, l1, l2 => if 8 ≤ l2 then k50 G (l1 + 1) else (fX11_tellPerson N G l1 l2).bind fun v1 => (fX11_digest_60 N k50 n) (fX11_say G v1.toInt64) l1 (l2 + 1)
def fX11_digest_50 (N : Nat) : Nat → kg_G → Int32 → Option (Int64 × kg_G)
  | 0, _, _ => none
  | n + 1, G, l1 => if (G.1 28 4) ≤ l1 then fX11_digest_91 N N G 0 else fX11_digest_60 N (fX11_digest_50 N n) N G l1 0
def fX11_digest_19 (N : Nat) (k9 : kg_G → Int32 → Option (Int64 × kg_G)) : Nat → kg_G → Int32 → Int32 → Option (Int64 × kg_G)
  | 0, _, _, _ => none
  | n + 1, G, l1, l2 => if 9 ≤ l2 then k9 G (l1 + 1) else (fX11_tellTrick N G l1 l2).bind fun v1 => (fX11_digest_19 N k9 n) (fX11_say G v1.toInt64) l1 (l2 + 1)
def fX11_digest_9 (N : Nat) : Nat → kg_G → Int32 → Option (Int64 × kg_G)
  | 0, _, _ => none
  | n + 1, G, l1 => if (G.1 28 3) ≤ l1 then fX11_digest_50 N N G 0 else fX11_digest_19 N (fX11_digest_9 N n) N G l1 0
def fX11_digest (N : Nat) (G : kg_G) : Option (Int64 × kg_G) := fX11_digest_9 N N (kg_h G 1117) 0
