/-! LETTERS of the page: of tricks, of people -/
def gD (c lo hi : Nat) : Bool := decide (lo ≤ c ∧ c ≤ hi)
def gK (c : Nat) : Bool := decide (c = 116 ∨ c = 112 ∨ c = 115 ∨ c = 108 ∨ c = 114)
def gT (i c : Nat) : Bool := if i % 5 = 0 then gK c else if i % 5 = 1 then gD c 48 55 else if i % 5 = 2 then gD c 49 52 else if i % 5 = 3 then gD c 48 57 else decide ((c = 44 ∧ i < 24) ∨ (c = 59 ∧ 4 < i))
def gP (j c : Nat) : Bool := if 10 ≤ j then false else if j % 2 = 0 then gD c 48 57 else gD c 48 53
theorem g_mod5 : ∀ i, i < 36 → nI i - nI i / 5 * 5 = nI (i % 5) := by decide +kernel
theorem g_div5 : ∀ i, i < 36 → nI i / 5 = nI (i / 5) := by decide +kernel
theorem g_mod2 : ∀ i, i < 40 → nI i - nI i / 2 * 2 = nI (i % 2) := by decide +kernel
theorem g_idx : ∀ c, c < 127 → fJ0_indexOf_0f7a4 kN (((nI c).toUInt32 % 65536).toInt32) = some (if c = 116 then 0 else if c = 112 then 1 else if c = 115 then 2 else if c = 108 then 3 else if c = 114 then 4 else -1) := by decide +kernel
theorem g_idx0 : ∀ c, c < 127 → ((if c = 116 then (0 : Int32) else if c = 112 then 1 else if c = 115 then 2 else if c = 108 then 3 else if c = 114 then 4 else -1) < 0) = (gK c = false) := by
  intro c hc
  refine propext ?_
  revert c
  decide +kernel
theorem g_kind : ∀ c, c < 127 → (fX11_kindBy (nI c) = (-1) ↔ gK c = false) := by decide +kernel
theorem g_in : ∀ c, c < 127 → fX11_in (nI c).toInt64 48 55 = (if gD c 48 55 then 1 else 0) ∧ fX11_in (nI c).toInt64 49 52 = (if gD c 49 52 then 1 else 0) ∧ fX11_in (nI c).toInt64 48 57 = (if gD c 48 57 then 1 else 0) ∧ fX11_in (nI c).toInt64 48 53 = (if gD c 48 53 then 1 else 0) := by decide +kernel
theorem g_dig : ∀ c, c < 127 → (if nI c - 48 < 0 then (0 : Int32) else if 7 < nI c - 48 then 0 else 1) = (if gD c 48 55 then 1 else 0) ∧ (if nI c - 48 < 1 then (0 : Int32) else if 4 < nI c - 48 then 0 else 1) = (if gD c 49 52 then 1 else 0) ∧ (if nI c - 48 < 0 then (0 : Int32) else if 9 < nI c - 48 then 0 else 1) = (if gD c 48 57 then 1 else 0) ∧ (if nI c - 48 < 0 then (0 : Int32) else if 5 < nI c - 48 then 0 else 1) = (if gD c 48 53 then 1 else 0) := by decide +kernel
