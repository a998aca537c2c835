/-! CALLS by what they answer; small rows for the printed walks -/
section KP
variable {Z : kv_Z} {d : Nat} {M M' : kv_Me} {pc : Nat} {ls : List (Option Value)} {st stk As : List Value} {h h' h2 : kv_H} {r : Option Value} {index n : Nat}
theorem kr_callVi {x : Int32} {a ci : Nat} {fs : List Value} {T : u_T} {N : Nat} (hm : kv_M Z d M' (.ref a :: As) h (some (.int x)) h2) (ho : kv_ok M' n) (hn : As.length = n) (ha : h[a]? = some (.inr (.inr (ci, fs)))) (hc : vwCl[ci]? = some (M'.1.cls, T, N)) (hl : Cond.methodLink M.1.cls index M'.1 ∈ kv_W) (hi : Cond.instanceMethod M'.1 ∈ kv_W) (hse : Cond.selects M'.1.cls M'.1 M'.1 ∈ kv_W) (hs : stk = As.reverse ++ .ref a :: st) (hcat : (st.map fun v => v.category).sum ≤ 8) (hd : decode M.2.1 pc = .ok (.invokevirtual index, 3)) (k : kv_V Z (d + 1) M (pc + 3) ls (.int x :: st) h2 r h') : kv_V Z (d + 1) M pc ls stk h r h' := kr_callV hm ho hn ha hc hl hi hse hs hcat hd k
theorem kr_callXi {x : Int32} (hm : kv_M Z d M' (.retAddr 0 :: As) h (some (.int x)) h2) (ho : kv_ok M' n) (hn : As.length = n) (hcl : M'.1.cls = "java/lang/String") (hl : Cond.methodLink M.1.cls index M'.1 ∈ kv_W) (hi : Cond.instanceMethod M'.1 ∈ kv_W) (hse : Cond.selects M'.1.cls M'.1 M'.1 ∈ kv_W) (hs : stk = As.reverse ++ .retAddr 0 :: st) (hcat : (st.map fun v => v.category).sum ≤ 8) (hd : decode M.2.1 pc = .ok (.invokevirtual index, 3)) (k : kv_V Z (d + 1) M (pc + 3) ls (.int x :: st) h2 r h') : kv_V Z (d + 1) M pc ls stk h r h' := kr_callX hm ho hn hcl hl hi hse hs hcat hd k
theorem kr_callSi {x : Int32} (hm : kv_M Z d M' As h (some (.int x)) h2) (ho : kv_ok M' n) (hn : As.length = n) (hl : Cond.methodLink M.1.cls index M'.1 ∈ kv_W) (hst : Cond.static M'.1 ∈ kv_W) (hs : stk = As.reverse ++ st) (hcat : (st.map fun v => v.category).sum ≤ 8) (hd : decode M.2.1 pc = .ok (.invokestatic index, 3)) (k : kv_V Z (d + 1) M (pc + 3) ls (.int x :: st) h2 r h') : kv_V Z (d + 1) M pc ls stk h r h' := kr_callS hm ho hn hl hst hs hcat hd k
theorem kr_callSNi {x : Int32} (hm : kv_M Z d M' As h (some (.int x)) h2) (ho : kv_ok M' n) (hn : As.length = n) (hq : (M.1.cls, index, M'.1, RX10) ∈ kv_nest) (hst : Cond.static M'.1 ∈ kv_W) (hs : stk = As.reverse ++ st) (hcat : (st.map fun v => v.category).sum ≤ 8) (hd : decode M.2.1 pc = .ok (.invokestatic index, 3)) (k : kv_V Z (d + 1) M (pc + 3) ls (.int x :: st) h2 r h') : kv_V Z (d + 1) M pc ls stk h r h' := kr_callSN hm ho hn hq hst hs hcat hd k
theorem kr_callVl {x : Int64} {a ci : Nat} {fs : List Value} {T : u_T} {N : Nat} (hm : kv_M Z d M' (.ref a :: As) h (some (.long x)) h2) (ho : kv_ok M' n) (hn : As.length = n) (ha : h[a]? = some (.inr (.inr (ci, fs)))) (hc : vwCl[ci]? = some (M'.1.cls, T, N)) (hl : Cond.methodLink M.1.cls index M'.1 ∈ kv_W) (hi : Cond.instanceMethod M'.1 ∈ kv_W) (hse : Cond.selects M'.1.cls M'.1 M'.1 ∈ kv_W) (hs : stk = As.reverse ++ .ref a :: st) (hcat : (st.map fun v => v.category).sum ≤ 8) (hd : decode M.2.1 pc = .ok (.invokevirtual index, 3)) (k : kv_V Z (d + 1) M (pc + 3) ls (.long x :: st) h2 r h') : kv_V Z (d + 1) M pc ls stk h r h' := kr_callV hm ho hn ha hc hl hi hse hs hcat hd k
theorem kr_callXl {x : Int64} (hm : kv_M Z d M' (.retAddr 0 :: As) h (some (.long x)) h2) (ho : kv_ok M' n) (hn : As.length = n) (hcl : M'.1.cls = "java/lang/String") (hl : Cond.methodLink M.1.cls index M'.1 ∈ kv_W) (hi : Cond.instanceMethod M'.1 ∈ kv_W) (hse : Cond.selects M'.1.cls M'.1 M'.1 ∈ kv_W) (hs : stk = As.reverse ++ .retAddr 0 :: st) (hcat : (st.map fun v => v.category).sum ≤ 8) (hd : decode M.2.1 pc = .ok (.invokevirtual index, 3)) (k : kv_V Z (d + 1) M (pc + 3) ls (.long x :: st) h2 r h') : kv_V Z (d + 1) M pc ls stk h r h' := kr_callX hm ho hn hcl hl hi hse hs hcat hd k
theorem kr_callSl {x : Int64} (hm : kv_M Z d M' As h (some (.long x)) h2) (ho : kv_ok M' n) (hn : As.length = n) (hl : Cond.methodLink M.1.cls index M'.1 ∈ kv_W) (hst : Cond.static M'.1 ∈ kv_W) (hs : stk = As.reverse ++ st) (hcat : (st.map fun v => v.category).sum ≤ 8) (hd : decode M.2.1 pc = .ok (.invokestatic index, 3)) (k : kv_V Z (d + 1) M (pc + 3) ls (.long x :: st) h2 r h') : kv_V Z (d + 1) M pc ls stk h r h' := kr_callS hm ho hn hl hst hs hcat hd k
theorem kr_callSNl {x : Int64} (hm : kv_M Z d M' As h (some (.long x)) h2) (ho : kv_ok M' n) (hn : As.length = n) (hq : (M.1.cls, index, M'.1, RX10) ∈ kv_nest) (hst : Cond.static M'.1 ∈ kv_W) (hs : stk = As.reverse ++ st) (hcat : (st.map fun v => v.category).sum ≤ 8) (hd : decode M.2.1 pc = .ok (.invokestatic index, 3)) (k : kv_V Z (d + 1) M (pc + 3) ls (.long x :: st) h2 r h') : kv_V Z (d + 1) M pc ls stk h r h' := kr_callSN hm ho hn hq hst hs hcat hd k
theorem kr_callVr {x : Nat} {a ci : Nat} {fs : List Value} {T : u_T} {N : Nat} (hm : kv_M Z d M' (.ref a :: As) h (some (.ref x)) h2) (ho : kv_ok M' n) (hn : As.length = n) (ha : h[a]? = some (.inr (.inr (ci, fs)))) (hc : vwCl[ci]? = some (M'.1.cls, T, N)) (hl : Cond.methodLink M.1.cls index M'.1 ∈ kv_W) (hi : Cond.instanceMethod M'.1 ∈ kv_W) (hse : Cond.selects M'.1.cls M'.1 M'.1 ∈ kv_W) (hs : stk = As.reverse ++ .ref a :: st) (hcat : (st.map fun v => v.category).sum ≤ 8) (hd : decode M.2.1 pc = .ok (.invokevirtual index, 3)) (k : kv_V Z (d + 1) M (pc + 3) ls (.ref x :: st) h2 r h') : kv_V Z (d + 1) M pc ls stk h r h' := kr_callV hm ho hn ha hc hl hi hse hs hcat hd k
theorem kr_callXr {x : Nat} (hm : kv_M Z d M' (.retAddr 0 :: As) h (some (.ref x)) h2) (ho : kv_ok M' n) (hn : As.length = n) (hcl : M'.1.cls = "java/lang/String") (hl : Cond.methodLink M.1.cls index M'.1 ∈ kv_W) (hi : Cond.instanceMethod M'.1 ∈ kv_W) (hse : Cond.selects M'.1.cls M'.1 M'.1 ∈ kv_W) (hs : stk = As.reverse ++ .retAddr 0 :: st) (hcat : (st.map fun v => v.category).sum ≤ 8) (hd : decode M.2.1 pc = .ok (.invokevirtual index, 3)) (k : kv_V Z (d + 1) M (pc + 3) ls (.ref x :: st) h2 r h') : kv_V Z (d + 1) M pc ls stk h r h' := kr_callX hm ho hn hcl hl hi hse hs hcat hd k
theorem kr_callSr {x : Nat} (hm : kv_M Z d M' As h (some (.ref x)) h2) (ho : kv_ok M' n) (hn : As.length = n) (hl : Cond.methodLink M.1.cls index M'.1 ∈ kv_W) (hst : Cond.static M'.1 ∈ kv_W) (hs : stk = As.reverse ++ st) (hcat : (st.map fun v => v.category).sum ≤ 8) (hd : decode M.2.1 pc = .ok (.invokestatic index, 3)) (k : kv_V Z (d + 1) M (pc + 3) ls (.ref x :: st) h2 r h') : kv_V Z (d + 1) M pc ls stk h r h' := kr_callS hm ho hn hl hst hs hcat hd k
theorem kr_callSNr {x : Nat} (hm : kv_M Z d M' As h (some (.ref x)) h2) (ho : kv_ok M' n) (hn : As.length = n) (hq : (M.1.cls, index, M'.1, RX10) ∈ kv_nest) (hst : Cond.static M'.1 ∈ kv_W) (hs : stk = As.reverse ++ st) (hcat : (st.map fun v => v.category).sum ≤ 8) (hd : decode M.2.1 pc = .ok (.invokestatic index, 3)) (k : kv_V Z (d + 1) M (pc + 3) ls (.ref x :: st) h2 r h') : kv_V Z (d + 1) M pc ls stk h r h' := kr_callSN hm ho hn hq hst hs hcat hd k
theorem kr_callVv {a ci : Nat} {fs : List Value} {T : u_T} {N : Nat} (hm : kv_M Z d M' (.ref a :: As) h none h2) (ho : kv_ok M' n) (hn : As.length = n) (ha : h[a]? = some (.inr (.inr (ci, fs)))) (hc : vwCl[ci]? = some (M'.1.cls, T, N)) (hl : Cond.methodLink M.1.cls index M'.1 ∈ kv_W) (hi : Cond.instanceMethod M'.1 ∈ kv_W) (hse : Cond.selects M'.1.cls M'.1 M'.1 ∈ kv_W) (hs : stk = As.reverse ++ .ref a :: st) (hcat : (st.map fun v => v.category).sum ≤ 8) (hd : decode M.2.1 pc = .ok (.invokevirtual index, 3)) (k : kv_V Z (d + 1) M (pc + 3) ls st h2 r h') : kv_V Z (d + 1) M pc ls stk h r h' := kr_callV hm ho hn ha hc hl hi hse hs hcat hd k
theorem kr_callXv (hm : kv_M Z d M' (.retAddr 0 :: As) h none h2) (ho : kv_ok M' n) (hn : As.length = n) (hcl : M'.1.cls = "java/lang/String") (hl : Cond.methodLink M.1.cls index M'.1 ∈ kv_W) (hi : Cond.instanceMethod M'.1 ∈ kv_W) (hse : Cond.selects M'.1.cls M'.1 M'.1 ∈ kv_W) (hs : stk = As.reverse ++ .retAddr 0 :: st) (hcat : (st.map fun v => v.category).sum ≤ 8) (hd : decode M.2.1 pc = .ok (.invokevirtual index, 3)) (k : kv_V Z (d + 1) M (pc + 3) ls st h2 r h') : kv_V Z (d + 1) M pc ls stk h r h' := kr_callX hm ho hn hcl hl hi hse hs hcat hd k
theorem kr_callSv (hm : kv_M Z d M' As h none h2) (ho : kv_ok M' n) (hn : As.length = n) (hl : Cond.methodLink M.1.cls index M'.1 ∈ kv_W) (hst : Cond.static M'.1 ∈ kv_W) (hs : stk = As.reverse ++ st) (hcat : (st.map fun v => v.category).sum ≤ 8) (hd : decode M.2.1 pc = .ok (.invokestatic index, 3)) (k : kv_V Z (d + 1) M (pc + 3) ls st h2 r h') : kv_V Z (d + 1) M pc ls stk h r h' := kr_callS hm ho hn hl hst hs hcat hd k
theorem kr_callSNv (hm : kv_M Z d M' As h none h2) (ho : kv_ok M' n) (hn : As.length = n) (hq : (M.1.cls, index, M'.1, RX10) ∈ kv_nest) (hst : Cond.static M'.1 ∈ kv_W) (hs : stk = As.reverse ++ st) (hcat : (st.map fun v => v.category).sum ≤ 8) (hd : decode M.2.1 pc = .ok (.invokestatic index, 3)) (k : kv_V Z (d + 1) M (pc + 3) ls st h2 r h') : kv_V Z (d + 1) M pc ls stk h r h' := kr_callSN hm ho hn hq hst hs hcat hd k
end KP
theorem kx_ite {α : Type} {c : Prop} [Decidable c] {b : Option α} {x : α} (h : (if c then none else b) = some x) : ¬ c ∧ b = some x := by
  by_cases hc : c
  · rw [if_pos hc] at h; cases h
  · rw [if_neg hc] at h; exact ⟨hc, h⟩
theorem kx_itn {α : Type} {c : Prop} [Decidable c] {b : Option α} {x : α} (h : (if c then b else none) = some x) : c ∧ b = some x := by
  by_cases hc : c
  · rw [if_pos hc] at h; exact ⟨hc, h⟩
  · rw [if_neg hc] at h; cases h
theorem kx_nar {v : Int32} (h : v &&& 1 = v) : narrow .boolean (.int v) = .int v := by
  show Value.int (v &&& 1) = .int v
  rw [h]
theorem kx_out3 {x : Int32} (c0 : ¬ x = 0) (c1 : ¬ x = 1) (c2 : ¬ x = 2) : x.toInt < 0 ∨ 2 < x.toInt := by
  have q0 := lv_neT c0 (a := 0) (by decide)
  have q1 := lv_neT c1 (a := 1) (by decide)
  have q2 := lv_neT c2 (a := 2) (by decide)
  omega
theorem kx_out4 {x : Int32} (c0 : ¬ x = 0) (c1 : ¬ x = 1) (c2 : ¬ x = 2) (c3 : ¬ x = 3) : x.toInt < 0 ∨ 3 < x.toInt := by
  have q0 := lv_neT c0 (a := 0) (by decide)
  have q1 := lv_neT c1 (a := 1) (by decide)
  have q2 := lv_neT c2 (a := 2) (by decide)
  have q3 := lv_neT c3 (a := 3) (by decide)
  omega
theorem kx_out5 {x : Int32} (c0 : ¬ x = 0) (c1 : ¬ x = 1) (c2 : ¬ x = 2) (c3 : ¬ x = 3) (c4 : ¬ x = 4) : x.toInt < 0 ∨ 4 < x.toInt := by
  have q0 := lv_neT c0 (a := 0) (by decide)
  have q1 := lv_neT c1 (a := 1) (by decide)
  have q2 := lv_neT c2 (a := 2) (by decide)
  have q3 := lv_neT c3 (a := 3) (by decide)
  have q4 := lv_neT c4 (a := 4) (by decide)
  omega
theorem kx_out6 {x : Int32} (c0 : ¬ x = 0) (c1 : ¬ x = 1) (c2 : ¬ x = 2) (c3 : ¬ x = 3) (c4 : ¬ x = 4) (c5 : ¬ x = 5) : x.toInt < 0 ∨ 5 < x.toInt := by
  have q0 := lv_neT c0 (a := 0) (by decide)
  have q1 := lv_neT c1 (a := 1) (by decide)
  have q2 := lv_neT c2 (a := 2) (by decide)
  have q3 := lv_neT c3 (a := 3) (by decide)
  have q4 := lv_neT c4 (a := 4) (by decide)
  have q5 := lv_neT c5 (a := 5) (by decide)
  omega
theorem kx_out7 {x : Int32} (c0 : ¬ x = 0) (c1 : ¬ x = 1) (c2 : ¬ x = 2) (c3 : ¬ x = 3) (c4 : ¬ x = 4) (c5 : ¬ x = 5) (c6 : ¬ x = 6) : x.toInt < 0 ∨ 6 < x.toInt := by
  have q0 := lv_neT c0 (a := 0) (by decide)
  have q1 := lv_neT c1 (a := 1) (by decide)
  have q2 := lv_neT c2 (a := 2) (by decide)
  have q3 := lv_neT c3 (a := 3) (by decide)
  have q4 := lv_neT c4 (a := 4) (by decide)
  have q5 := lv_neT c5 (a := 5) (by decide)
  have q6 := lv_neT c6 (a := 6) (by decide)
  omega
theorem kx_out8 {x : Int32} (c0 : ¬ x = 0) (c1 : ¬ x = 1) (c2 : ¬ x = 2) (c3 : ¬ x = 3) (c4 : ¬ x = 4) (c5 : ¬ x = 5) (c6 : ¬ x = 6) (c7 : ¬ x = 7) : x.toInt < 0 ∨ 7 < x.toInt := by
  have q0 := lv_neT c0 (a := 0) (by decide)
  have q1 := lv_neT c1 (a := 1) (by decide)
  have q2 := lv_neT c2 (a := 2) (by decide)
  have q3 := lv_neT c3 (a := 3) (by decide)
  have q4 := lv_neT c4 (a := 4) (by decide)
  have q5 := lv_neT c5 (a := 5) (by decide)
  have q6 := lv_neT c6 (a := 6) (by decide)
  have q7 := lv_neT c7 (a := 7) (by decide)
  omega
theorem kx_out9 {x : Int32} (c0 : ¬ x = 0) (c1 : ¬ x = 1) (c2 : ¬ x = 2) (c3 : ¬ x = 3) (c4 : ¬ x = 4) (c5 : ¬ x = 5) (c6 : ¬ x = 6) (c7 : ¬ x = 7) (c8 : ¬ x = 8) : x.toInt < 0 ∨ 8 < x.toInt := by
  have q0 := lv_neT c0 (a := 0) (by decide)
  have q1 := lv_neT c1 (a := 1) (by decide)
  have q2 := lv_neT c2 (a := 2) (by decide)
  have q3 := lv_neT c3 (a := 3) (by decide)
  have q4 := lv_neT c4 (a := 4) (by decide)
  have q5 := lv_neT c5 (a := 5) (by decide)
  have q6 := lv_neT c6 (a := 6) (by decide)
  have q7 := lv_neT c7 (a := 7) (by decide)
  have q8 := lv_neT c8 (a := 8) (by decide)
  omega
theorem kx_out10 {x : Int32} (c0 : ¬ x = 0) (c1 : ¬ x = 1) (c2 : ¬ x = 2) (c3 : ¬ x = 3) (c4 : ¬ x = 4) (c5 : ¬ x = 5) (c6 : ¬ x = 6) (c7 : ¬ x = 7) (c8 : ¬ x = 8) (c9 : ¬ x = 9) : x.toInt < 0 ∨ 9 < x.toInt := by
  have q0 := lv_neT c0 (a := 0) (by decide)
  have q1 := lv_neT c1 (a := 1) (by decide)
  have q2 := lv_neT c2 (a := 2) (by decide)
  have q3 := lv_neT c3 (a := 3) (by decide)
  have q4 := lv_neT c4 (a := 4) (by decide)
  have q5 := lv_neT c5 (a := 5) (by decide)
  have q6 := lv_neT c6 (a := 6) (by decide)
  have q7 := lv_neT c7 (a := 7) (by decide)
  have q8 := lv_neT c8 (a := 8) (by decide)
  have q9 := lv_neT c9 (a := 9) (by decide)
  omega
theorem kx_out11 {x : Int32} (c0 : ¬ x = 0) (c1 : ¬ x = 1) (c2 : ¬ x = 2) (c3 : ¬ x = 3) (c4 : ¬ x = 4) (c5 : ¬ x = 5) (c6 : ¬ x = 6) (c7 : ¬ x = 7) (c8 : ¬ x = 8) (c9 : ¬ x = 9) (c10 : ¬ x = 10) : x.toInt < 0 ∨ 10 < x.toInt := by
  have q0 := lv_neT c0 (a := 0) (by decide)
  have q1 := lv_neT c1 (a := 1) (by decide)
  have q2 := lv_neT c2 (a := 2) (by decide)
  have q3 := lv_neT c3 (a := 3) (by decide)
  have q4 := lv_neT c4 (a := 4) (by decide)
  have q5 := lv_neT c5 (a := 5) (by decide)
  have q6 := lv_neT c6 (a := 6) (by decide)
  have q7 := lv_neT c7 (a := 7) (by decide)
  have q8 := lv_neT c8 (a := 8) (by decide)
  have q9 := lv_neT c9 (a := 9) (by decide)
  have q10 := lv_neT c10 (a := 10) (by decide)
  omega
theorem kx_out12 {x : Int32} (c0 : ¬ x = 0) (c1 : ¬ x = 1) (c2 : ¬ x = 2) (c3 : ¬ x = 3) (c4 : ¬ x = 4) (c5 : ¬ x = 5) (c6 : ¬ x = 6) (c7 : ¬ x = 7) (c8 : ¬ x = 8) (c9 : ¬ x = 9) (c10 : ¬ x = 10) (c11 : ¬ x = 11) : x.toInt < 0 ∨ 11 < x.toInt := by
  have q0 := lv_neT c0 (a := 0) (by decide)
  have q1 := lv_neT c1 (a := 1) (by decide)
  have q2 := lv_neT c2 (a := 2) (by decide)
  have q3 := lv_neT c3 (a := 3) (by decide)
  have q4 := lv_neT c4 (a := 4) (by decide)
  have q5 := lv_neT c5 (a := 5) (by decide)
  have q6 := lv_neT c6 (a := 6) (by decide)
  have q7 := lv_neT c7 (a := 7) (by decide)
  have q8 := lv_neT c8 (a := 8) (by decide)
  have q9 := lv_neT c9 (a := 9) (by decide)
  have q10 := lv_neT c10 (a := 10) (by decide)
  have q11 := lv_neT c11 (a := 11) (by decide)
  omega
theorem kx_out13 {x : Int32} (c0 : ¬ x = 0) (c1 : ¬ x = 1) (c2 : ¬ x = 2) (c3 : ¬ x = 3) (c4 : ¬ x = 4) (c5 : ¬ x = 5) (c6 : ¬ x = 6) (c7 : ¬ x = 7) (c8 : ¬ x = 8) (c9 : ¬ x = 9) (c10 : ¬ x = 10) (c11 : ¬ x = 11) (c12 : ¬ x = 12) : x.toInt < 0 ∨ 12 < x.toInt := by
  have q0 := lv_neT c0 (a := 0) (by decide)
  have q1 := lv_neT c1 (a := 1) (by decide)
  have q2 := lv_neT c2 (a := 2) (by decide)
  have q3 := lv_neT c3 (a := 3) (by decide)
  have q4 := lv_neT c4 (a := 4) (by decide)
  have q5 := lv_neT c5 (a := 5) (by decide)
  have q6 := lv_neT c6 (a := 6) (by decide)
  have q7 := lv_neT c7 (a := 7) (by decide)
  have q8 := lv_neT c8 (a := 8) (by decide)
  have q9 := lv_neT c9 (a := 9) (by decide)
  have q10 := lv_neT c10 (a := 10) (by decide)
  have q11 := lv_neT c11 (a := 11) (by decide)
  have q12 := lv_neT c12 (a := 12) (by decide)
  omega
theorem kx_out14 {x : Int32} (c0 : ¬ x = 0) (c1 : ¬ x = 1) (c2 : ¬ x = 2) (c3 : ¬ x = 3) (c4 : ¬ x = 4) (c5 : ¬ x = 5) (c6 : ¬ x = 6) (c7 : ¬ x = 7) (c8 : ¬ x = 8) (c9 : ¬ x = 9) (c10 : ¬ x = 10) (c11 : ¬ x = 11) (c12 : ¬ x = 12) (c13 : ¬ x = 13) : x.toInt < 0 ∨ 13 < x.toInt := by
  have q0 := lv_neT c0 (a := 0) (by decide)
  have q1 := lv_neT c1 (a := 1) (by decide)
  have q2 := lv_neT c2 (a := 2) (by decide)
  have q3 := lv_neT c3 (a := 3) (by decide)
  have q4 := lv_neT c4 (a := 4) (by decide)
  have q5 := lv_neT c5 (a := 5) (by decide)
  have q6 := lv_neT c6 (a := 6) (by decide)
  have q7 := lv_neT c7 (a := 7) (by decide)
  have q8 := lv_neT c8 (a := 8) (by decide)
  have q9 := lv_neT c9 (a := 9) (by decide)
  have q10 := lv_neT c10 (a := 10) (by decide)
  have q11 := lv_neT c11 (a := 11) (by decide)
  have q12 := lv_neT c12 (a := 12) (by decide)
  have q13 := lv_neT c13 (a := 13) (by decide)
  omega
theorem kx_out15 {x : Int32} (c0 : ¬ x = 0) (c1 : ¬ x = 1) (c2 : ¬ x = 2) (c3 : ¬ x = 3) (c4 : ¬ x = 4) (c5 : ¬ x = 5) (c6 : ¬ x = 6) (c7 : ¬ x = 7) (c8 : ¬ x = 8) (c9 : ¬ x = 9) (c10 : ¬ x = 10) (c11 : ¬ x = 11) (c12 : ¬ x = 12) (c13 : ¬ x = 13) (c14 : ¬ x = 14) : x.toInt < 0 ∨ 14 < x.toInt := by
  have q0 := lv_neT c0 (a := 0) (by decide)
  have q1 := lv_neT c1 (a := 1) (by decide)
  have q2 := lv_neT c2 (a := 2) (by decide)
  have q3 := lv_neT c3 (a := 3) (by decide)
  have q4 := lv_neT c4 (a := 4) (by decide)
  have q5 := lv_neT c5 (a := 5) (by decide)
  have q6 := lv_neT c6 (a := 6) (by decide)
  have q7 := lv_neT c7 (a := 7) (by decide)
  have q8 := lv_neT c8 (a := 8) (by decide)
  have q9 := lv_neT c9 (a := 9) (by decide)
  have q10 := lv_neT c10 (a := 10) (by decide)
  have q11 := lv_neT c11 (a := 11) (by decide)
  have q12 := lv_neT c12 (a := 12) (by decide)
  have q13 := lv_neT c13 (a := 13) (by decide)
  have q14 := lv_neT c14 (a := 14) (by decide)
  omega
theorem kx_out16 {x : Int32} (c0 : ¬ x = 0) (c1 : ¬ x = 1) (c2 : ¬ x = 2) (c3 : ¬ x = 3) (c4 : ¬ x = 4) (c5 : ¬ x = 5) (c6 : ¬ x = 6) (c7 : ¬ x = 7) (c8 : ¬ x = 8) (c9 : ¬ x = 9) (c10 : ¬ x = 10) (c11 : ¬ x = 11) (c12 : ¬ x = 12) (c13 : ¬ x = 13) (c14 : ¬ x = 14) (c15 : ¬ x = 15) : x.toInt < 0 ∨ 15 < x.toInt := by
  have q0 := lv_neT c0 (a := 0) (by decide)
  have q1 := lv_neT c1 (a := 1) (by decide)
  have q2 := lv_neT c2 (a := 2) (by decide)
  have q3 := lv_neT c3 (a := 3) (by decide)
  have q4 := lv_neT c4 (a := 4) (by decide)
  have q5 := lv_neT c5 (a := 5) (by decide)
  have q6 := lv_neT c6 (a := 6) (by decide)
  have q7 := lv_neT c7 (a := 7) (by decide)
  have q8 := lv_neT c8 (a := 8) (by decide)
  have q9 := lv_neT c9 (a := 9) (by decide)
  have q10 := lv_neT c10 (a := 10) (by decide)
  have q11 := lv_neT c11 (a := 11) (by decide)
  have q12 := lv_neT c12 (a := 12) (by decide)
  have q13 := lv_neT c13 (a := 13) (by decide)
  have q14 := lv_neT c14 (a := 14) (by decide)
  have q15 := lv_neT c15 (a := 15) (by decide)
  omega
theorem kx_out17 {x : Int32} (c0 : ¬ x = 0) (c1 : ¬ x = 1) (c2 : ¬ x = 2) (c3 : ¬ x = 3) (c4 : ¬ x = 4) (c5 : ¬ x = 5) (c6 : ¬ x = 6) (c7 : ¬ x = 7) (c8 : ¬ x = 8) (c9 : ¬ x = 9) (c10 : ¬ x = 10) (c11 : ¬ x = 11) (c12 : ¬ x = 12) (c13 : ¬ x = 13) (c14 : ¬ x = 14) (c15 : ¬ x = 15) (c16 : ¬ x = 16) : x.toInt < 0 ∨ 16 < x.toInt := by
  have q0 := lv_neT c0 (a := 0) (by decide)
  have q1 := lv_neT c1 (a := 1) (by decide)
  have q2 := lv_neT c2 (a := 2) (by decide)
  have q3 := lv_neT c3 (a := 3) (by decide)
  have q4 := lv_neT c4 (a := 4) (by decide)
  have q5 := lv_neT c5 (a := 5) (by decide)
  have q6 := lv_neT c6 (a := 6) (by decide)
  have q7 := lv_neT c7 (a := 7) (by decide)
  have q8 := lv_neT c8 (a := 8) (by decide)
  have q9 := lv_neT c9 (a := 9) (by decide)
  have q10 := lv_neT c10 (a := 10) (by decide)
  have q11 := lv_neT c11 (a := 11) (by decide)
  have q12 := lv_neT c12 (a := 12) (by decide)
  have q13 := lv_neT c13 (a := 13) (by decide)
  have q14 := lv_neT c14 (a := 14) (by decide)
  have q15 := lv_neT c15 (a := 15) (by decide)
  have q16 := lv_neT c16 (a := 16) (by decide)
  omega
def kx_by (i : Int32) : Option Int32 := if i < 0 then none else if i.toNatClampNeg < 5 then some ((kv_byt.getD 0 []).getD i.toNatClampNeg 0) else none
theorem kx_aldY {Z : kv_Z} {d : Nat} {M : kv_Me} {pc : Nat} {ls : List (Option Value)} {st : List Value} {h h' : kv_H} {r : Option Value} {i x : Int32} (hg : kx_by i = some x) (hd : decode M.2.1 pc = .ok (.baload, 1)) (kk : kv_V Z d M (pc + 1) ls (.int x :: st) h r h') : kv_V Z d M pc ls (.int i :: .retAddr 1 :: st) h r h' := by
  unfold kx_by at hg
  obtain ⟨h1, hg⟩ := kx_ite hg
  obtain ⟨h2, hg⟩ := kx_itn hg
  exact kr_aldY (fun z => z.elim h1 (fun z => absurd h2 (by omega))) (Option.some.inj hg) hd kk
theorem kv_M_ofF {Z : kv_Z} {d : Nat} {M : kv_Me} {av : List Value} {h h' : kv_H} {r : Option Value} {ls : List (Option Value)} (hy : plainFor M.1 = true) (hl : (lg_sl (av.map (kv_r Z))).length ≤ M.2.2.1) (ha : lv_args 0 (av.map (kv_r Z)) = kv_as Z 0 ls) (k : kv_V Z d M 0 ls [] h r h') : kv_M Z d M av h r h' := by
  refine ⟨k.1, MetFree.of_bodySF (code := M.2.1) (maxLocals := M.2.2.1) (ret := M.2.2.2) hy ?_ ?_⟩
  · intro args s m hh hn
    obtain ⟨meth, c, h1, h2, h3, h4, h5, h6, -, -⟩ := Cond.code_spec hn (atoms_spec (ws := kv_ws M) hh _ List.mem_cons_self)
    exact ⟨meth, c, h1, h2, h3, h4, h5, h6⟩
  · intro p e s m args below meth c s₁ B hml hv _
    have hh0 : s₁.heap = s.heap := by rw [B.state]; rfl
    obtain ⟨rfl, hsz, hP, hK⟩ := hv
    have hL := lv_entry (av.map (kv_r Z)) (n := M.2.2.1) hl
    have W0 : W p Z.1 e (kv_R d (h'.length - h.length) (kv_sl h' - kv_sl h)) s m (av.map (kv_r Z)).toArray below meth c s.heap [] 0 0 (MQ below (kv_Q Z r h') (av.map (kv_r Z)).toArray s (h'.length - h.length) (kv_sl h' - kv_sl h) (kv_A Z)) (entryFrame m (av.map (kv_r Z)).toArray M.2.2.1) := by
      rw [lg_entry_eq]
      generalize (lg_sl (av.map (kv_r Z)) ++ List.replicate (M.2.2.1 - (lg_sl (av.map (kv_r Z))).length) Slot.unset).toArray = L at hL ⊢
      rw [ha] at hL
      have hb : h.length - h.length = 0 := by omega
      have hc : kv_sl h - kv_sl h = 0 := by omega
      have := k.2 h.length (kv_sl h) p e s m _ below meth c s.heap [] L (Nat.le_refl _) (Nat.le_refl _) ⟨B.exec, B.bytes, B.returns, B.notSynchronized, hml, findClass_of_methodNamed B.named, atoms_spec (ws := kv_ws M) B.pre, hK, hsz, (name_of_methodNamed B.named B.method).1⟩ hP va_S.rf hL
      rw [hb, hc] at this
      exact this
    obtain ⟨t, a1, o, b1, b2, b3⟩ := W0 s₁ hh0 (Stand.of_body B)
    exact ⟨t, o, a1, b1, b2, ⟨b3.1, b3.2⟩⟩
