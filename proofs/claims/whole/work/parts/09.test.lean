theorem pm_nz {y : Int32} (h : ¬ y = 0) : (!(decide (y = 0))) = true := by simp [h]
theorem pm_nzl {y : Int64} (h : ¬ y = 0) : (!(decide (y = 0))) = true := by simp [h]
set_option maxRecDepth 20000 in
theorem bk_X10_paidFor_0 {ro : pm_RO} {Q : Option Value → pm_M → Prop} {mem : pm_M} {n : Int32} (k : pm_Ex ro m_X10_paidFor 12 [.ref 33, .int n, .int (mem 41 0), .int n, .int 1, .null] [] mem Q) : pm_Ex ro m_X10_paidFor 0 [.ref 33, .int n, .null, .null, .null, .null] [] mem Q := by
  have hS : pm_sig[m_X10_paidFor]? = some _ := rfl
  have hC : pm_cod[m_X10_paidFor]? = some _ := rfl
  refine ex_many (pc' := 12) (ls' := [.ref 33, .int n, .int (mem 41 0), .int n, .int 1, .null]) (st' := []) (mem' := mem) hS hC 9 rfl ?_
  exact k

set_option maxRecDepth 20000 in
theorem bk_X10_paidFor_12 {ro : pm_RO} {Q : Option Value → pm_M → Prop} {mem : pm_M} {n b r e : Int32} (k : (r ≤ 0 → pm_Ex ro m_X10_paidFor 52 [.ref 33, .int n, .int b, .int r, .int e, .int 0] [] mem Q) ∧ (¬ (r ≤ 0) → (¬ b = 0) ∧ ((¬ (r - r / b * b) = 0 → pm_Ex ro m_X10_paidFor 52 [.ref 33, .int n, .int b, .int r, .int e, .int 0] [] mem Q) ∧ (¬ (¬ (r - r / b * b) = 0) → (¬ b = 0) ∧ ((¬ (mem 41 1) = 1 → pm_Ex ro m_X10_paidFor 12 [.ref 33, .int n, .int b, .int (r / b), .int (e * 1), .null] [] mem Q) ∧ (¬ (¬ (mem 41 1) = 1) → pm_Ex ro m_X10_paidFor 12 [.ref 33, .int n, .int b, .int (r / b), .int (e * b), .null] [] mem Q)))))) : pm_Ex ro m_X10_paidFor 12 [.ref 33, .int n, .int b, .int r, .int e, .null] [] mem Q := by
  have hS : pm_sig[m_X10_paidFor]? = some _ := rfl
  have hC : pm_cod[m_X10_paidFor]? = some _ := rfl
  refine ex_many (pc' := 13) (ls' := [.ref 33, .int n, .int b, .int r, .int e, .null]) (st' := [.int r]) (mem' := mem) hS hC 1 rfl ?_
  refine ex_br (P := r ≤ 0) (a := 49) (b := 16) (ls' := [.ref 33, .int n, .int b, .int r, .int e, .null]) (st' := []) (mem' := mem) hS hC rfl (fun h => ?_) (fun h => ?_)
  · replace k := k.1 h
    refine ex_many (pc' := 52) (ls' := [.ref 33, .int n, .int b, .int r, .int e, .int 0]) (st' := []) (mem' := mem) hS hC 2 rfl ?_
    exact k
  · replace k := k.2 h
    refine ex_many (pc' := 18) (ls' := [.ref 33, .int n, .int b, .int r, .int e, .null]) (st' := [.int b, .int r]) (mem' := mem) hS hC 2 rfl ?_
    refine ex_grd (b := !(decide (b = 0))) (pc' := 19) (ls' := [.ref 33, .int n, .int b, .int r, .int e, .null]) (st' := [.int (r - r / b * b)]) (mem' := mem) hS hC rfl (pm_nz k.1) ?_
    replace k := k.2
    refine ex_br (P := ¬ (r - r / b * b) = 0) (a := 49) (b := 22) (ls' := [.ref 33, .int n, .int b, .int r, .int e, .null]) (st' := []) (mem' := mem) hS hC rfl (fun h => ?_) (fun h => ?_)
    · replace k := k.1 h
      refine ex_many (pc' := 52) (ls' := [.ref 33, .int n, .int b, .int r, .int e, .int 0]) (st' := []) (mem' := mem) hS hC 2 rfl ?_
      exact k
    · replace k := k.2 h
      refine ex_many (pc' := 24) (ls' := [.ref 33, .int n, .int b, .int r, .int e, .null]) (st' := [.int b, .int r]) (mem' := mem) hS hC 2 rfl ?_
      refine ex_grd (b := !(decide (b = 0))) (pc' := 25) (ls' := [.ref 33, .int n, .int b, .int r, .int e, .null]) (st' := [.int (r / b)]) (mem' := mem) hS hC rfl (pm_nz k.1) ?_
      replace k := k.2
      refine ex_many (pc' := 35) (ls' := [.ref 33, .int n, .int b, .int (r / b), .int e, .null]) (st' := [.int 1, .int (mem 41 1), .int e]) (mem' := mem) hS hC 7 rfl ?_
      refine ex_br (P := ¬ (mem 41 1) = 1) (a := 42) (b := 38) (ls' := [.ref 33, .int n, .int b, .int (r / b), .int e, .null]) (st' := [.int e]) (mem' := mem) hS hC rfl (fun h => ?_) (fun h => ?_)
      · replace k := k.1 h
        refine ex_many (pc' := 12) (ls' := [.ref 33, .int n, .int b, .int (r / b), .int (e * 1), .null]) (st' := []) (mem' := mem) hS hC 4 rfl ?_
        exact k
      · replace k := k.2 h
        refine ex_many (pc' := 12) (ls' := [.ref 33, .int n, .int b, .int (r / b), .int (e * b), .null]) (st' := []) (mem' := mem) hS hC 5 rfl ?_
        exact k

set_option maxRecDepth 20000 in
theorem bk_X10_paidFor_52 {ro : pm_RO} {Q : Option Value → pm_M → Prop} {mem : pm_M} {n b r e u : Int32} (k : (r ≤ 0 → Q (some (.int (u * e))) mem) ∧ (¬ (r ≤ 0) → (¬ b = 0) ∧ ((¬ b = 0) ∧ (pm_Ex ro m_X10_paidFor 52 [.ref 33, .int n, .int b, .int (r / b), .int e, .int ((b * u) + (r - r / b * b))] [] mem Q)))) : pm_Ex ro m_X10_paidFor 52 [.ref 33, .int n, .int b, .int r, .int e, .int u] [] mem Q := by
  have hS : pm_sig[m_X10_paidFor]? = some _ := rfl
  have hC : pm_cod[m_X10_paidFor]? = some _ := rfl
  refine ex_many (pc' := 53) (ls' := [.ref 33, .int n, .int b, .int r, .int e, .int u]) (st' := [.int r]) (mem' := mem) hS hC 1 rfl ?_
  refine ex_br (P := r ≤ 0) (a := 73) (b := 56) (ls' := [.ref 33, .int n, .int b, .int r, .int e, .int u]) (st' := []) (mem' := mem) hS hC rfl (fun h => ?_) (fun h => ?_)
  · replace k := k.1 h
    refine ex_many (pc' := 78) (ls' := [.ref 33, .int n, .int b, .int r, .int e, .int u]) (st' := [.int (u * e)]) (mem' := mem) hS hC 3 rfl ?_
    exact ex_ret (v := (some (.int (u * e)))) hS hC rfl rfl rfl k
  · replace k := k.2 h
    refine ex_many (pc' := 62) (ls' := [.ref 33, .int n, .int b, .int r, .int e, .int u]) (st' := [.int b, .int r, .int (b * u)]) (mem' := mem) hS hC 5 rfl ?_
    refine ex_grd (b := !(decide (b = 0))) (pc' := 63) (ls' := [.ref 33, .int n, .int b, .int r, .int e, .int u]) (st' := [.int (r - r / b * b), .int (b * u)]) (mem' := mem) hS hC rfl (pm_nz k.1) ?_
    replace k := k.2
    refine ex_many (pc' := 68) (ls' := [.ref 33, .int n, .int b, .int r, .int e, .int ((b * u) + (r - r / b * b))]) (st' := [.int b, .int r]) (mem' := mem) hS hC 4 rfl ?_
    refine ex_grd (b := !(decide (b = 0))) (pc' := 69) (ls' := [.ref 33, .int n, .int b, .int r, .int e, .int ((b * u) + (r - r / b * b))]) (st' := [.int (r / b)]) (mem' := mem) hS hC rfl (pm_nz k.1) ?_
    replace k := k.2
    refine ex_many (pc' := 52) (ls' := [.ref 33, .int n, .int b, .int (r / b), .int e, .int ((b * u) + (r - r / b * b))]) (st' := []) (mem' := mem) hS hC 2 rfl ?_
    exact k

set_option maxRecDepth 20000 in
theorem bk_X10_in_0 {ro : pm_RO} {Q : Option Value → pm_M → Prop} {mem : pm_M} {v lo hi : Int64} (k : ((lg_cmp v lo) < 0 → Q (some (.int 0)) mem) ∧ (¬ ((lg_cmp v lo) < 0) → (0 < (lg_cmp v hi) → Q (some (.int 0)) mem) ∧ (¬ (0 < (lg_cmp v hi)) → Q (some (.int 1)) mem))) : pm_Ex ro m_X10_in 0 [.long v, .null, .long lo, .null, .long hi, .null] [] mem Q := by
  have hS : pm_sig[m_X10_in]? = some _ := rfl
  have hC : pm_cod[m_X10_in]? = some _ := rfl
  refine ex_many (pc' := 3) (ls' := [.long v, .null, .long lo, .null, .long hi, .null]) (st' := [.int (lg_cmp v lo)]) (mem' := mem) hS hC 3 rfl ?_
  refine ex_br (P := (lg_cmp v lo) < 0) (a := 17) (b := 6) (ls' := [.long v, .null, .long lo, .null, .long hi, .null]) (st' := []) (mem' := mem) hS hC rfl (fun h => ?_) (fun h => ?_)
  · replace k := k.1 h
    refine ex_many (pc' := 18) (ls' := [.long v, .null, .long lo, .null, .long hi, .null]) (st' := [.int 0]) (mem' := mem) hS hC 1 rfl ?_
    exact ex_ret (v := (some (.int 0))) hS hC rfl rfl rfl k
  · replace k := k.2 h
    refine ex_many (pc' := 10) (ls' := [.long v, .null, .long lo, .null, .long hi, .null]) (st' := [.int (lg_cmp v hi)]) (mem' := mem) hS hC 3 rfl ?_
    refine ex_br (P := 0 < (lg_cmp v hi)) (a := 17) (b := 13) (ls' := [.long v, .null, .long lo, .null, .long hi, .null]) (st' := []) (mem' := mem) hS hC rfl (fun h => ?_) (fun h => ?_)
    · replace k := k.1 h
      refine ex_many (pc' := 18) (ls' := [.long v, .null, .long lo, .null, .long hi, .null]) (st' := [.int 0]) (mem' := mem) hS hC 1 rfl ?_
      exact ex_ret (v := (some (.int 0))) hS hC rfl rfl rfl k
    · replace k := k.2 h
      refine ex_many (pc' := 18) (ls' := [.long v, .null, .long lo, .null, .long hi, .null]) (st' := [.int 1]) (mem' := mem) hS hC 2 rfl ?_
      exact ex_ret (v := (some (.int 1))) hS hC rfl rfl rfl k

set_option maxRecDepth 20000 in
theorem bk_X10_isIn_0 {ro : pm_RO} {Q : Option Value → pm_M → Prop} {mem : pm_M} {a b : Int32} (k : (¬ ((a >>> (b &&& 31)) &&& 1) = 1 → Q (some (.int 0)) mem) ∧ (¬ (¬ ((a >>> (b &&& 31)) &&& 1) = 1) → Q (some (.int 1)) mem)) : pm_Ex ro m_X10_isIn 0 [.int a, .int b] [] mem Q := by
  have hS : pm_sig[m_X10_isIn]? = some _ := rfl
  have hC : pm_cod[m_X10_isIn]? = some _ := rfl
  refine ex_many (pc' := 6) (ls' := [.int a, .int b]) (st' := [.int 1, .int ((a >>> (b &&& 31)) &&& 1)]) (mem' := mem) hS hC 6 rfl ?_
  refine ex_br (P := ¬ ((a >>> (b &&& 31)) &&& 1) = 1) (a := 13) (b := 9) (ls' := [.int a, .int b]) (st' := []) (mem' := mem) hS hC rfl (fun h => ?_) (fun h => ?_)
  · replace k := k.1 h
    refine ex_many (pc' := 14) (ls' := [.int a, .int b]) (st' := [.int 0]) (mem' := mem) hS hC 1 rfl ?_
    exact ex_ret (v := (some (.int 0))) hS hC rfl rfl rfl k
  · replace k := k.2 h
    refine ex_many (pc' := 14) (ls' := [.int a, .int b]) (st' := [.int 1]) (mem' := mem) hS hC 2 rfl ?_
    exact ex_ret (v := (some (.int 1))) hS hC rfl rfl rfl k

