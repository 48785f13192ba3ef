set_option maxRecDepth 20000 in
theorem bk_X10_in_0 {ro : pm_RO} {Q : Option Value → pm_M → Prop} {mem : pm_M} {v lo hi : Int64} (k : Q (some (.int (zb (¬ ((lg_cmp v lo) < 0) ∧ (¬ (0 < (lg_cmp v hi))))))) mem) : pm_Ex ro m_X10_in 0 [.long v, .null, .long lo, .null, .long hi, .null] [] mem Q := by
  have hS : pm_sig[m_X10_in]? = some _ := rfl
  have hC : pm_cod[m_X10_in]? = some _ := rfl
  refine ex_many (pc' := 3) (ls' := [.long v, .null, .long lo, .null, .long hi, .null]) (st' := [.int (lg_cmp v lo)]) (mem' := mem) hS hC 3 rfl ?_
  have kp2 : pm_Ex ro m_X10_in 18 [.long v, .null, .long lo, .null, .long hi, .null] [.int (zb (¬ ((lg_cmp v lo) < 0) ∧ (¬ (0 < (lg_cmp v hi)))))] mem Q := by
    exact ex_retz hS hC rfl rfl rfl (zb_01 _) k
  refine ex_br (P := (lg_cmp v lo) < 0) (a := 17) (b := 6) (ls' := [.long v, .null, .long lo, .null, .long hi, .null]) (st' := []) (mem' := mem) hS hC rfl (fun h => ?_) (fun h => ?_)
  · have kp2a : pm_Ex ro m_X10_in 18 [.long v, .null, .long lo, .null, .long hi, .null] [.int 0] mem Q := pm_phi1 (f := fun z0 => pm_Ex ro m_X10_in 18 [.long v, .null, .long lo, .null, .long hi, .null] [.int z0] mem Q) (zbN_t (h)) kp2
    refine ex_many (pc' := 18) (ls' := [.long v, .null, .long lo, .null, .long hi, .null]) (st' := [.int 0]) (mem' := mem) hS hC 1 rfl ?_
    exact kp2a
  · have kp2b : pm_Ex ro m_X10_in 18 [.long v, .null, .long lo, .null, .long hi, .null] [.int (zb (¬ (0 < (lg_cmp v hi))))] mem Q := pm_phi1 (f := fun z0 => pm_Ex ro m_X10_in 18 [.long v, .null, .long lo, .null, .long hi, .null] [.int z0] mem Q) (zbN_f (h)) kp2
    have kp1 : pm_Ex ro m_X10_in 18 [.long v, .null, .long lo, .null, .long hi, .null] [.int (zb (¬ (0 < (lg_cmp v hi))))] mem Q := by
      exact kp2b
    refine ex_many (pc' := 10) (ls' := [.long v, .null, .long lo, .null, .long hi, .null]) (st' := [.int (lg_cmp v hi)]) (mem' := mem) hS hC 3 rfl ?_
    refine ex_br (P := 0 < (lg_cmp v hi)) (a := 17) (b := 13) (ls' := [.long v, .null, .long lo, .null, .long hi, .null]) (st' := []) (mem' := mem) hS hC rfl (fun h => ?_) (fun h => ?_)
    · have kp1a : pm_Ex ro m_X10_in 18 [.long v, .null, .long lo, .null, .long hi, .null] [.int 0] mem Q := pm_phi1 (f := fun z0 => pm_Ex ro m_X10_in 18 [.long v, .null, .long lo, .null, .long hi, .null] [.int z0] mem Q) (zb_npos (h)) kp1
      refine ex_many (pc' := 18) (ls' := [.long v, .null, .long lo, .null, .long hi, .null]) (st' := [.int 0]) (mem' := mem) hS hC 1 rfl ?_
      exact kp1a
    · have kp1b : pm_Ex ro m_X10_in 18 [.long v, .null, .long lo, .null, .long hi, .null] [.int 1] mem Q := pm_phi1 (f := fun z0 => pm_Ex ro m_X10_in 18 [.long v, .null, .long lo, .null, .long hi, .null] [.int z0] mem Q) (zb_nneg (h)) kp1
      refine ex_many (pc' := 18) (ls' := [.long v, .null, .long lo, .null, .long hi, .null]) (st' := [.int 1]) (mem' := mem) hS hC 2 rfl ?_
      exact kp1b

theorem sp_in32 {ro : pm_RO} {Q : Option Value → pm_M → Prop} {mem : pm_M} {v lo hi : Int32} {lo' hi' : Int64} (h1 : lo' = lo.toInt64) (h2 : hi' = hi.toInt64) (k : Q (some (.int (zb (lo ≤ v ∧ v ≤ hi)))) mem) : pm_Ex ro m_X10_in 0 [.long v.toInt64, .null, .long lo', .null, .long hi', .null] [] mem Q := by
  subst h1; subst h2
  refine bk_X10_in_0 ?_
  rw [show (zb (¬ (lg_cmp v.toInt64 lo.toInt64 < 0) ∧ (¬ (0 < lg_cmp v.toInt64 hi.toInt64)))) = zb (lo ≤ v ∧ v ≤ hi) from zb_iff (by
    rw [lg_cmp_lt, lg_cmp_gt, i64_lt, i64_lt, Int32.lt_iff_toInt_lt, Int32.lt_iff_toInt_lt, Int32.le_iff_toInt_le, Int32.le_iff_toInt_le]; omega)]
  exact k

set_option maxRecDepth 20000 in
theorem bk_X10_isTwo_0 {ro : pm_RO} {Q : Option Value → pm_M → Prop} {mem : pm_M} {a1 : Int32} (k : Q (some (.int (zb (0 ≤ a1 ∧ a1 ≤ 1)))) mem) : pm_Ex ro m_X10_isTwo 0 [.int a1] [] mem Q := by
  have hS : pm_sig[m_X10_isTwo]? = some _ := rfl
  have hC : pm_cod[m_X10_isTwo]? = some _ := rfl
  refine ex_many (pc' := 4) (ls' := [.int a1]) (st' := [.long 1, .long 0, .long a1.toInt64]) (mem' := mem) hS hC 4 rfl ?_
  refine ex_call (y' := m_X10_in) (rest := []) (ent := [.long a1.toInt64, .null, .long 0, .null, .long 1, .null]) hS hC rfl rfl rfl rfl rfl rfl ?_
  refine sp_in32 (v := a1) (lo := 0) (hi := 1) (by decide) (by decide) ?_
  show pm_Ex ro m_X10_isTwo 7 [.int a1] [.int (zb (0 ≤ a1 ∧ a1 ≤ 1))] mem Q
  exact ex_retz hS hC rfl rfl rfl (zb_01 _) k

set_option maxRecDepth 20000 in
theorem bk_X10_isIn_0 {ro : pm_RO} {Q : Option Value → pm_M → Prop} {mem : pm_M} {a1 a2 : Int32} (k : Q (some (.int (zb (¬ (¬ ((a1 >>> (a2 &&& 31)) &&& 1) = 1))))) mem) : pm_Ex ro m_X10_isIn 0 [.int a1, .int a2] [] mem Q := by
  have hS : pm_sig[m_X10_isIn]? = some _ := rfl
  have hC : pm_cod[m_X10_isIn]? = some _ := rfl
  refine ex_many (pc' := 6) (ls' := [.int a1, .int a2]) (st' := [.int 1, .int ((a1 >>> (a2 &&& 31)) &&& 1)]) (mem' := mem) hS hC 6 rfl ?_
  have kp3 : pm_Ex ro m_X10_isIn 14 [.int a1, .int a2] [.int (zb (¬ (¬ ((a1 >>> (a2 &&& 31)) &&& 1) = 1)))] mem Q := by
    exact ex_retz hS hC rfl rfl rfl (zb_01 _) k
  refine ex_br (P := ¬ ((a1 >>> (a2 &&& 31)) &&& 1) = 1) (a := 13) (b := 9) (ls' := [.int a1, .int a2]) (st' := []) (mem' := mem) hS hC rfl (fun h => ?_) (fun h => ?_)
  · have kp3a : pm_Ex ro m_X10_isIn 14 [.int a1, .int a2] [.int 0] mem Q := pm_phi1 (f := fun z0 => pm_Ex ro m_X10_isIn 14 [.int a1, .int a2] [.int z0] mem Q) (zb_npos (h)) kp3
    refine ex_many (pc' := 14) (ls' := [.int a1, .int a2]) (st' := [.int 0]) (mem' := mem) hS hC 1 rfl ?_
    exact kp3a
  · have kp3b : pm_Ex ro m_X10_isIn 14 [.int a1, .int a2] [.int 1] mem Q := pm_phi1 (f := fun z0 => pm_Ex ro m_X10_isIn 14 [.int a1, .int a2] [.int z0] mem Q) (zb_nneg (h)) kp3
    refine ex_many (pc' := 14) (ls' := [.int a1, .int a2]) (st' := [.int 1]) (mem' := mem) hS hC 2 rfl ?_
    exact kp3b

set_option maxRecDepth 20000 in
theorem bk_X10_met_0 {ro : pm_RO} {Q : Option Value → pm_M → Prop} {mem : pm_M} {a1 : Int32} (k : Q (some (.int ((-10) - a1))) (pm_up mem 33 4 a1)) : pm_Ex ro m_X10_met 0 [.ref 33, .int a1] [] mem Q := by
  have hS : pm_sig[m_X10_met]? = some _ := rfl
  have hC : pm_cod[m_X10_met]? = some _ := rfl
  refine ex_many (pc' := 9) (ls' := [.ref 33, .int a1]) (st' := [.int ((-10) - a1)]) (mem' := pm_up mem 33 4 a1) hS hC 6 rfl ?_
  exact ex_ret (v := (some (.int ((-10) - a1)))) hS hC rfl rfl rfl k

set_option maxRecDepth 20000 in
theorem bk_X10_isSheet_0 {ro : pm_RO} {Q : Option Value → pm_M → Prop} {mem : pm_M} {a1 : Int32} (k : Q (some (.int (zb (0 ≤ a1 ∧ a1 ≤ 3)))) mem) : pm_Ex ro m_X10_isSheet 0 [.int a1] [] mem Q := by
  have hS : pm_sig[m_X10_isSheet]? = some _ := rfl
  have hC : pm_cod[m_X10_isSheet]? = some _ := rfl
  refine ex_many (pc' := 6) (ls' := [.int a1]) (st' := [.long 3, .long 0, .long a1.toInt64]) (mem' := mem) hS hC 4 rfl ?_
  refine ex_call (y' := m_X10_in) (rest := []) (ent := [.long a1.toInt64, .null, .long 0, .null, .long 3, .null]) hS hC rfl rfl rfl rfl rfl rfl ?_
  refine sp_in32 (v := a1) (lo := 0) (hi := 3) (by decide) (by decide) ?_
  show pm_Ex ro m_X10_isSheet 9 [.int a1] [.int (zb (0 ≤ a1 ∧ a1 ≤ 3))] mem Q
  exact ex_retz hS hC rfl rfl rfl (zb_01 _) k

set_option maxRecDepth 20000 in
theorem bk_X10_isPartner_0 {ro : pm_RO} {Q : Option Value → pm_M → Prop} {mem : pm_M} {a1 : Int32} (k : Q (some (.int (zb (0 ≤ a1 ∧ a1 ≤ 3)))) mem) : pm_Ex ro m_X10_isPartner 0 [.int a1] [] mem Q := by
  have hS : pm_sig[m_X10_isPartner]? = some _ := rfl
  have hC : pm_cod[m_X10_isPartner]? = some _ := rfl
  refine ex_many (pc' := 6) (ls' := [.int a1]) (st' := [.long 3, .long 0, .long a1.toInt64]) (mem' := mem) hS hC 4 rfl ?_
  refine ex_call (y' := m_X10_in) (rest := []) (ent := [.long a1.toInt64, .null, .long 0, .null, .long 3, .null]) hS hC rfl rfl rfl rfl rfl rfl ?_
  refine sp_in32 (v := a1) (lo := 0) (hi := 3) (by decide) (by decide) ?_
  show pm_Ex ro m_X10_isPartner 9 [.int a1] [.int (zb (0 ≤ a1 ∧ a1 ≤ 3))] mem Q
  exact ex_retz hS hC rfl rfl rfl (zb_01 _) k

set_option maxRecDepth 20000 in
theorem bk_X10_isNumber_0 {ro : pm_RO} {Q : Option Value → pm_M → Prop} {mem : pm_M} {a1 : Int32} (k : Q (some (.int (zb (0 ≤ a1 ∧ a1 ≤ 9999)))) mem) : pm_Ex ro m_X10_isNumber 0 [.int a1] [] mem Q := by
  have hS : pm_sig[m_X10_isNumber]? = some _ := rfl
  have hC : pm_cod[m_X10_isNumber]? = some _ := rfl
  refine ex_many (pc' := 6) (ls' := [.int a1]) (st' := [.long 9999, .long 0, .long a1.toInt64]) (mem' := mem) hS hC 4 rfl ?_
  refine ex_call (y' := m_X10_in) (rest := []) (ent := [.long a1.toInt64, .null, .long 0, .null, .long 9999, .null]) hS hC rfl rfl rfl rfl rfl rfl ?_
  refine sp_in32 (v := a1) (lo := 0) (hi := 9999) (by decide) (by decide) ?_
  show pm_Ex ro m_X10_isNumber 9 [.int a1] [.int (zb (0 ≤ a1 ∧ a1 ≤ 9999))] mem Q
  exact ex_retz hS hC rfl rfl rfl (zb_01 _) k

set_option maxRecDepth 20000 in
theorem bk_X10_cut_0 {ro : pm_RO} {Q : Option Value → pm_M → Prop} {mem : pm_M} {a1 a2 : Int32} (k : Q (some (.int (if ¬ a1 = 0 then (if ¬ a1 = 1 then a2 else a2.toInt16.toInt32 : Int32) else a2.toInt8.toInt32 : Int32))) mem) : pm_Ex ro m_X10_cut 0 [.int a1, .int a2] [] mem Q := by
  have hS : pm_sig[m_X10_cut]? = some _ := rfl
  have hC : pm_cod[m_X10_cut]? = some _ := rfl
  refine ex_many (pc' := 1) (ls' := [.int a1, .int a2]) (st' := [.int a1]) (mem' := mem) hS hC 1 rfl ?_
  have kp6 : pm_Ex ro m_X10_cut 20 [.int a1, .int a2] [.int (if ¬ a1 = 0 then (if ¬ a1 = 1 then a2 else a2.toInt16.toInt32 : Int32) else a2.toInt8.toInt32 : Int32)] mem Q := by
    exact ex_ret (v := (some (.int (if ¬ a1 = 0 then (if ¬ a1 = 1 then a2 else a2.toInt16.toInt32 : Int32) else a2.toInt8.toInt32 : Int32)))) hS hC rfl rfl rfl k
  refine ex_br (P := ¬ a1 = 0) (a := 9) (b := 4) (ls' := [.int a1, .int a2]) (st' := []) (mem' := mem) hS hC rfl (fun h => ?_) (fun h => ?_)
  · have kp6a : pm_Ex ro m_X10_cut 20 [.int a1, .int a2] [.int (if ¬ a1 = 1 then a2 else a2.toInt16.toInt32 : Int32)] mem Q := pm_phi1 (f := fun z0 => pm_Ex ro m_X10_cut 20 [.int a1, .int a2] [.int z0] mem Q) (if_pos (h)) kp6
    have kp5 : pm_Ex ro m_X10_cut 20 [.int a1, .int a2] [.int (if ¬ a1 = 1 then a2 else a2.toInt16.toInt32 : Int32)] mem Q := by
      exact kp6a
    refine ex_many (pc' := 11) (ls' := [.int a1, .int a2]) (st' := [.int 1, .int a1]) (mem' := mem) hS hC 2 rfl ?_
    refine ex_br (P := ¬ a1 = 1) (a := 19) (b := 14) (ls' := [.int a1, .int a2]) (st' := []) (mem' := mem) hS hC rfl (fun h => ?_) (fun h => ?_)
    · have kp5a : pm_Ex ro m_X10_cut 20 [.int a1, .int a2] [.int a2] mem Q := pm_phi1 (f := fun z0 => pm_Ex ro m_X10_cut 20 [.int a1, .int a2] [.int z0] mem Q) (if_pos (h)) kp5
      refine ex_many (pc' := 20) (ls' := [.int a1, .int a2]) (st' := [.int a2]) (mem' := mem) hS hC 1 rfl ?_
      exact kp5a
    · have kp5b : pm_Ex ro m_X10_cut 20 [.int a1, .int a2] [.int a2.toInt16.toInt32] mem Q := pm_phi1 (f := fun z0 => pm_Ex ro m_X10_cut 20 [.int a1, .int a2] [.int z0] mem Q) (if_neg (h)) kp5
      refine ex_many (pc' := 20) (ls' := [.int a1, .int a2]) (st' := [.int a2.toInt16.toInt32]) (mem' := mem) hS hC 3 rfl ?_
      exact kp5b
  · have kp6b : pm_Ex ro m_X10_cut 20 [.int a1, .int a2] [.int a2.toInt8.toInt32] mem Q := pm_phi1 (f := fun z0 => pm_Ex ro m_X10_cut 20 [.int a1, .int a2] [.int z0] mem Q) (if_neg (h)) kp6
    refine ex_many (pc' := 20) (ls' := [.int a1, .int a2]) (st' := [.int a2.toInt8.toInt32]) (mem' := mem) hS hC 3 rfl ?_
    exact kp6b

set_option maxRecDepth 20000 in
theorem bk_X10_no_0 {ro : pm_RO} {Q : Option Value → pm_M → Prop} {mem : pm_M} {a1 : Int32} (k : Q (some (.long ((-9223372036854775808) - a1.toInt64))) mem) : pm_Ex ro m_X10_no 0 [.int a1] [] mem Q := by
  have hS : pm_sig[m_X10_no]? = some _ := rfl
  have hC : pm_cod[m_X10_no]? = some _ := rfl
  refine ex_many (pc' := 6) (ls' := [.int a1]) (st' := [.long ((-9223372036854775808) - a1.toInt64)]) (mem' := mem) hS hC 4 rfl ?_
  exact ex_ret (v := (some (.long ((-9223372036854775808) - a1.toInt64)))) hS hC rfl rfl rfl k

set_option maxRecDepth 20000 in
theorem bk_X10_whole_0 {ro : pm_RO} {Q : Option Value → pm_M → Prop} {mem : pm_M} (k : Q (some (.int (((1 : Int32) <<< ((mem 33 8) &&& 31)) - 1))) mem) : pm_Ex ro m_X10_whole 0 [.ref 33] [] mem Q := by
  have hS : pm_sig[m_X10_whole]? = some _ := rfl
  have hC : pm_cod[m_X10_whole]? = some _ := rfl
  refine ex_many (pc' := 8) (ls' := [.ref 33]) (st' := [.int (((1 : Int32) <<< ((mem 33 8) &&& 31)) - 1)]) (mem' := mem) hS hC 6 rfl ?_
  exact ex_ret (v := (some (.int (((1 : Int32) <<< ((mem 33 8) &&& 31)) - 1)))) hS hC rfl rfl rfl k

set_option maxRecDepth 20000 in
theorem bk_X10_none_0 {ro : pm_RO} {Q : Option Value → pm_M → Prop} {mem : pm_M} (k : Q (some (.int ((pm_up (pm_up mem 33 8 0) 33 10 0) 33 7))) (pm_up (pm_up mem 33 8 0) 33 10 0)) : pm_Ex ro m_X10_none 0 [.ref 33] [] mem Q := by
  have hS : pm_sig[m_X10_none]? = some _ := rfl
  have hC : pm_cod[m_X10_none]? = some _ := rfl
  refine ex_many (pc' := 14) (ls' := [.ref 33]) (st' := [.int ((pm_up (pm_up mem 33 8 0) 33 10 0) 33 7)]) (mem' := pm_up (pm_up mem 33 8 0) 33 10 0) hS hC 8 rfl ?_
  exact ex_ret (v := (some (.int ((pm_up (pm_up mem 33 8 0) 33 10 0) 33 7)))) hS hC rfl rfl rfl k

set_option maxRecDepth 20000 in
theorem bk_X10_here_0 {ro : pm_RO} {Q : Option Value → pm_M → Prop} {mem : pm_M} (k : ((mem 33 6) ≤ (mem 33 7) → Q (some (.int (-1))) mem) ∧ (¬ ((mem 33 6) ≤ (mem 33 7)) → (pm_inb (mem 33 7) 50 = true) ∧ (Q (some (.int (mem 38 ((mem 33 7).toNatClampNeg)))) mem))) : pm_Ex ro m_X10_here 0 [.ref 33] [] mem Q := by
  have hS : pm_sig[m_X10_here]? = some _ := rfl
  have hC : pm_cod[m_X10_here]? = some _ := rfl
  refine ex_many (pc' := 8) (ls' := [.ref 33]) (st' := [.int (mem 33 6), .int (mem 33 7)]) (mem' := mem) hS hC 4 rfl ?_
  refine ex_br (P := (mem 33 6) ≤ (mem 33 7)) (a := 23) (b := 11) (ls' := [.ref 33]) (st' := []) (mem' := mem) hS hC rfl (fun h => ?_) (fun h => ?_)
  · replace k := k.1 (h)
    refine ex_many (pc' := 24) (ls' := [.ref 33]) (st' := [.int (-1)]) (mem' := mem) hS hC 1 rfl ?_
    exact ex_ret (v := (some (.int (-1)))) hS hC rfl rfl rfl k
  · replace k := k.2 (h)
    refine ex_many (pc' := 19) (ls' := [.ref 33]) (st' := [.int (mem 33 7), .ref 38]) (mem' := mem) hS hC 4 rfl ?_
    refine ex_grd (b := pm_inb (mem 33 7) 50) (pc' := 20) (ls' := [.ref 33]) (st' := [.int (mem 38 ((mem 33 7).toNatClampNeg))]) (mem' := mem) hS hC rfl k.1 ?_
    replace k := k.2
    refine ex_many (pc' := 24) (ls' := [.ref 33]) (st' := [.int (mem 38 ((mem 33 7).toNatClampNeg))]) (mem' := mem) hS hC 1 rfl ?_
    exact ex_ret (v := (some (.int (mem 38 ((mem 33 7).toNatClampNeg))))) hS hC rfl rfl rfl k

set_option maxRecDepth 20000 in
theorem bk_X10_ones_0 {ro : pm_RO} {Q : Option Value → pm_M → Prop} {mem : pm_M} {a1 : Int32} (k : pm_Ex ro m_X10_ones 4 [.int a1, .int 0, .int a1] [] mem Q) : pm_Ex ro m_X10_ones 0 [.int a1, .null, .null] [] mem Q := by
  have hS : pm_sig[m_X10_ones]? = some _ := rfl
  have hC : pm_cod[m_X10_ones]? = some _ := rfl
  refine ex_many (pc' := 4) (ls' := [.int a1, .int 0, .int a1]) (st' := []) (mem' := mem) hS hC 4 rfl ?_
  exact k

set_option maxRecDepth 20000 in
theorem bk_X10_ones_4 {ro : pm_RO} {Q : Option Value → pm_M → Prop} {mem : pm_M} {x0 x1 x2 : Int32} (k : (x2 = 0 → Q (some (.int x1)) mem) ∧ (¬ (x2 = 0) → pm_Ex ro m_X10_ones 4 [.int x0, .int (x1 + 1), .int (x2 &&& (x2 - 1))] [] mem Q)) : pm_Ex ro m_X10_ones 4 [.int x0, .int x1, .int x2] [] mem Q := by
  have hS : pm_sig[m_X10_ones]? = some _ := rfl
  have hC : pm_cod[m_X10_ones]? = some _ := rfl
  refine ex_many (pc' := 5) (ls' := [.int x0, .int x1, .int x2]) (st' := [.int x2]) (mem' := mem) hS hC 1 rfl ?_
  refine ex_br (P := x2 = 0) (a := 20) (b := 8) (ls' := [.int x0, .int x1, .int x2]) (st' := []) (mem' := mem) hS hC rfl (fun h => ?_) (fun h => ?_)
  · replace k := k.1 (h)
    refine ex_many (pc' := 21) (ls' := [.int x0, .int x1, .int x2]) (st' := [.int x1]) (mem' := mem) hS hC 1 rfl ?_
    exact ex_ret (v := (some (.int x1))) hS hC rfl rfl rfl k
  · replace k := k.2 (h)
    refine ex_many (pc' := 4) (ls' := [.int x0, .int (x1 + 1), .int (x2 &&& (x2 - 1))]) (st' := []) (mem' := mem) hS hC 8 rfl ?_
    exact k

set_option maxRecDepth 20000 in
theorem bk_X10_lacks_0 {ro : pm_RO} {Q : Option Value → pm_M → Prop} {mem : pm_M} {a1 a2 a3 : Int32} (k : (pm_inb a1 4 = true) ∧ ((0 ≤ (mem 34 a1.toNatClampNeg) → (pm_inb a1 4 = true) ∧ (((mem 34 a1.toNatClampNeg) = a2 → (pm_inb a1 4 = true) ∧ ((0 ≤ a3 ∧ a3 ≤ ((mem 35 a1.toNatClampNeg) - 1) → Q (some (.int 0)) mem) ∧ (¬ (0 ≤ a3 ∧ a3 ≤ ((mem 35 a1.toNatClampNeg) - 1)) → Q (some (.int ((-10) - (2 : Int32)))) (pm_up mem 33 4 (2 : Int32))))) ∧ (¬ ((mem 34 a1.toNatClampNeg) = a2) → Q (some (.int ((-10) - (3 : Int32)))) (pm_up mem 33 4 (3 : Int32))))) ∧ (¬ (0 ≤ (mem 34 a1.toNatClampNeg)) → Q (some (.int ((-10) - (1 : Int32)))) (pm_up mem 33 4 (1 : Int32))))) : pm_Ex ro m_X10_lacks 0 [.ref 33, .int a1, .int a2, .int a3] [] mem Q := by
  have hS : pm_sig[m_X10_lacks]? = some _ := rfl
  have hC : pm_cod[m_X10_lacks]? = some _ := rfl
  refine ex_many (pc' := 5) (ls' := [.ref 33, .int a1, .int a2, .int a3]) (st' := [.int a1, .ref 34]) (mem' := mem) hS hC 3 rfl ?_
  refine ex_grd (b := pm_inb a1 4) (pc' := 6) (ls' := [.ref 33, .int a1, .int a2, .int a3]) (st' := [.int (mem 34 a1.toNatClampNeg)]) (mem' := mem) hS hC rfl k.1 ?_
  replace k := k.2
  refine ex_br (P := 0 ≤ (mem 34 a1.toNatClampNeg)) (a := 15) (b := 9) (ls' := [.ref 33, .int a1, .int a2, .int a3]) (st' := []) (mem' := mem) hS hC rfl (fun h => ?_) (fun h => ?_)
  · replace k := k.1 (h)
    refine ex_many (pc' := 20) (ls' := [.ref 33, .int a1, .int a2, .int a3]) (st' := [.int a1, .ref 34]) (mem' := mem) hS hC 3 rfl ?_
    refine ex_grd (b := pm_inb a1 4) (pc' := 21) (ls' := [.ref 33, .int a1, .int a2, .int a3]) (st' := [.int (mem 34 a1.toNatClampNeg)]) (mem' := mem) hS hC rfl k.1 ?_
    replace k := k.2
    refine ex_many (pc' := 22) (ls' := [.ref 33, .int a1, .int a2, .int a3]) (st' := [.int a2, .int (mem 34 a1.toNatClampNeg)]) (mem' := mem) hS hC 1 rfl ?_
    refine ex_br (P := (mem 34 a1.toNatClampNeg) = a2) (a := 31) (b := 25) (ls' := [.ref 33, .int a1, .int a2, .int a3]) (st' := []) (mem' := mem) hS hC rfl (fun h => ?_) (fun h => ?_)
    · replace k := k.1 (h)
      refine ex_many (pc' := 39) (ls' := [.ref 33, .int a1, .int a2, .int a3]) (st' := [.int a1, .ref 35, .long 0, .long a3.toInt64]) (mem' := mem) hS hC 6 rfl ?_
      refine ex_grd (b := pm_inb a1 4) (pc' := 40) (ls' := [.ref 33, .int a1, .int a2, .int a3]) (st' := [.int (mem 35 a1.toNatClampNeg), .long 0, .long a3.toInt64]) (mem' := mem) hS hC rfl k.1 ?_
      replace k := k.2
      refine ex_many (pc' := 43) (ls' := [.ref 33, .int a1, .int a2, .int a3]) (st' := [.long (((mem 35 a1.toNatClampNeg) - 1).toInt64), .long 0, .long a3.toInt64]) (mem' := mem) hS hC 3 rfl ?_
      refine ex_call (y' := m_X10_in) (rest := []) (ent := [.long a3.toInt64, .null, .long 0, .null, .long (((mem 35 a1.toNatClampNeg) - 1).toInt64), .null]) hS hC rfl rfl rfl rfl rfl rfl ?_
      refine sp_in32 (v := a3) (lo := 0) (hi := ((mem 35 a1.toNatClampNeg) - 1)) (by decide) rfl ?_
      show pm_Ex ro m_X10_lacks 46 [.ref 33, .int a1, .int a2, .int a3] [.int (zb (0 ≤ a3 ∧ a3 ≤ ((mem 35 a1.toNatClampNeg) - 1)))] mem Q
      refine ex_br (P := (zb (0 ≤ a3 ∧ a3 ≤ ((mem 35 a1.toNatClampNeg) - 1))) = 0) (a := 53) (b := 49) (ls' := [.ref 33, .int a1, .int a2, .int a3]) (st' := []) (mem' := mem) hS hC rfl (fun h => ?_) (fun h => ?_)
      · replace k := k.2 (zb0 h)
        refine ex_many (pc' := 55) (ls' := [.ref 33, .int a1, .int a2, .int a3]) (st' := [.int 2, .ref 33]) (mem' := mem) hS hC 2 rfl ?_
        refine ex_call (y' := m_X10_met) (rest := []) (ent := [.ref 33, .int 2]) hS hC rfl rfl rfl rfl rfl rfl ?_
        refine bk_X10_met_0 ?_
        show pm_Ex ro m_X10_lacks 58 [.ref 33, .int a1, .int a2, .int a3] [.int ((-10) - (2 : Int32))] (pm_up mem 33 4 (2 : Int32)) Q
        exact ex_ret (v := (some (.int ((-10) - (2 : Int32))))) hS hC rfl rfl rfl k
      · replace k := k.1 (zb1 h)
        refine ex_many (pc' := 58) (ls' := [.ref 33, .int a1, .int a2, .int a3]) (st' := [.int 0]) (mem' := mem) hS hC 2 rfl ?_
        exact ex_ret (v := (some (.int 0))) hS hC rfl rfl rfl k
    · replace k := k.2 (h)
      refine ex_many (pc' := 27) (ls' := [.ref 33, .int a1, .int a2, .int a3]) (st' := [.int 3, .ref 33]) (mem' := mem) hS hC 2 rfl ?_
      refine ex_call (y' := m_X10_met) (rest := []) (ent := [.ref 33, .int 3]) hS hC rfl rfl rfl rfl rfl rfl ?_
      refine bk_X10_met_0 ?_
      show pm_Ex ro m_X10_lacks 30 [.ref 33, .int a1, .int a2, .int a3] [.int ((-10) - (3 : Int32))] (pm_up mem 33 4 (3 : Int32)) Q
      exact ex_ret (v := (some (.int ((-10) - (3 : Int32))))) hS hC rfl rfl rfl k
  · replace k := k.2 (h)
    refine ex_many (pc' := 11) (ls' := [.ref 33, .int a1, .int a2, .int a3]) (st' := [.int 1, .ref 33]) (mem' := mem) hS hC 2 rfl ?_
    refine ex_call (y' := m_X10_met) (rest := []) (ent := [.ref 33, .int 1]) hS hC rfl rfl rfl rfl rfl rfl ?_
    refine bk_X10_met_0 ?_
    show pm_Ex ro m_X10_lacks 14 [.ref 33, .int a1, .int a2, .int a3] [.int ((-10) - (1 : Int32))] (pm_up mem 33 4 (1 : Int32)) Q
    exact ex_ret (v := (some (.int ((-10) - (1 : Int32))))) hS hC rfl rfl rfl k

set_option maxRecDepth 20000 in
theorem bk_X10_sheet_0 {ro : pm_RO} {Q : Option Value → pm_M → Prop} {mem : pm_M} {a1 a2 a3 : Int32} (k : (0 ≤ a1 ∧ a1 ≤ 3 → (0 ≤ a2 ∧ a2 ≤ 2 → (a3 ≤ 60 → (0 ≤ a3 → (pm_inb a1 4 = true) ∧ ((pm_inb a1 4 = true) ∧ (pm_Ex ro m_X10_sheet 55 [.ref 33, .int a1, .int a2, .int a3, .int 0] [] (pm_up (pm_up mem 34 a1.toNatClampNeg a2) 35 a1.toNatClampNeg a3) Q))) ∧ (¬ (0 ≤ a3) → Q (some (.int ((-10) - (5 : Int32)))) (pm_up mem 33 4 (5 : Int32)))) ∧ (¬ (a3 ≤ 60) → Q (some (.int (-2))) mem)) ∧ (¬ (0 ≤ a2 ∧ a2 ≤ 2) → Q (some (.int (-2))) mem)) ∧ (¬ (0 ≤ a1 ∧ a1 ≤ 3) → Q (some (.int (-2))) mem)) : pm_Ex ro m_X10_sheet 0 [.ref 33, .int a1, .int a2, .int a3, .null] [] mem Q := by
  have hS : pm_sig[m_X10_sheet]? = some _ := rfl
  have hC : pm_cod[m_X10_sheet]? = some _ := rfl
  refine ex_many (pc' := 1) (ls' := [.ref 33, .int a1, .int a2, .int a3, .null]) (st' := [.int a1]) (mem' := mem) hS hC 1 rfl ?_
  refine ex_call (y' := m_X10_isSheet) (rest := []) (ent := [.int a1]) hS hC rfl rfl rfl rfl rfl rfl ?_
  refine bk_X10_isSheet_0 ?_
  show pm_Ex ro m_X10_sheet 4 [.ref 33, .int a1, .int a2, .int a3, .null] [.int (zb (0 ≤ a1 ∧ a1 ≤ 3))] mem Q
  refine ex_br (P := (zb (0 ≤ a1 ∧ a1 ≤ 3)) = 0) (a := 25) (b := 7) (ls' := [.ref 33, .int a1, .int a2, .int a3, .null]) (st' := []) (mem' := mem) hS hC rfl (fun h => ?_) (fun h => ?_)
  · replace k := k.2 (zb0 h)
    refine ex_many (pc' := 27) (ls' := [.ref 33, .int a1, .int a2, .int a3, .null]) (st' := [.int (-2)]) (mem' := mem) hS hC 1 rfl ?_
    exact ex_ret (v := (some (.int (-2)))) hS hC rfl rfl rfl k
  · replace k := k.1 (zb1 h)
    refine ex_many (pc' := 13) (ls' := [.ref 33, .int a1, .int a2, .int a3, .null]) (st' := [.long 2, .long 0, .long a2.toInt64]) (mem' := mem) hS hC 4 rfl ?_
    refine ex_call (y' := m_X10_in) (rest := []) (ent := [.long a2.toInt64, .null, .long 0, .null, .long 2, .null]) hS hC rfl rfl rfl rfl rfl rfl ?_
    refine sp_in32 (v := a2) (lo := 0) (hi := 2) (by decide) (by decide) ?_
    show pm_Ex ro m_X10_sheet 16 [.ref 33, .int a1, .int a2, .int a3, .null] [.int (zb (0 ≤ a2 ∧ a2 ≤ 2))] mem Q
    refine ex_br (P := (zb (0 ≤ a2 ∧ a2 ≤ 2)) = 0) (a := 25) (b := 19) (ls' := [.ref 33, .int a1, .int a2, .int a3, .null]) (st' := []) (mem' := mem) hS hC rfl (fun h => ?_) (fun h => ?_)
    · replace k := k.2 (zb0 h)
      refine ex_many (pc' := 27) (ls' := [.ref 33, .int a1, .int a2, .int a3, .null]) (st' := [.int (-2)]) (mem' := mem) hS hC 1 rfl ?_
      exact ex_ret (v := (some (.int (-2)))) hS hC rfl rfl rfl k
    · replace k := k.1 (zb1 h)
      refine ex_many (pc' := 22) (ls' := [.ref 33, .int a1, .int a2, .int a3, .null]) (st' := [.int 60, .int a3]) (mem' := mem) hS hC 2 rfl ?_
      refine ex_br (P := a3 ≤ 60) (a := 28) (b := 25) (ls' := [.ref 33, .int a1, .int a2, .int a3, .null]) (st' := []) (mem' := mem) hS hC rfl (fun h => ?_) (fun h => ?_)
      · replace k := k.1 (h)
        refine ex_many (pc' := 29) (ls' := [.ref 33, .int a1, .int a2, .int a3, .null]) (st' := [.int a3]) (mem' := mem) hS hC 1 rfl ?_
        refine ex_br (P := 0 ≤ a3) (a := 38) (b := 32) (ls' := [.ref 33, .int a1, .int a2, .int a3, .null]) (st' := []) (mem' := mem) hS hC rfl (fun h => ?_) (fun h => ?_)
        · replace k := k.1 (h)
          refine ex_many (pc' := 44) (ls' := [.ref 33, .int a1, .int a2, .int a3, .null]) (st' := [.int a2, .int a1, .ref 34]) (mem' := mem) hS hC 4 rfl ?_
          refine ex_grd (b := pm_inb a1 4) (pc' := 45) (ls' := [.ref 33, .int a1, .int a2, .int a3, .null]) (st' := []) (mem' := pm_up mem 34 a1.toNatClampNeg a2) hS hC rfl k.1 ?_
          replace k := k.2
          refine ex_many (pc' := 51) (ls' := [.ref 33, .int a1, .int a2, .int a3, .null]) (st' := [.int a3, .int a1, .ref 35]) (mem' := pm_up mem 34 a1.toNatClampNeg a2) hS hC 4 rfl ?_
          refine ex_grd (b := pm_inb a1 4) (pc' := 52) (ls' := [.ref 33, .int a1, .int a2, .int a3, .null]) (st' := []) (mem' := pm_up (pm_up mem 34 a1.toNatClampNeg a2) 35 a1.toNatClampNeg a3) hS hC rfl k.1 ?_
          replace k := k.2
          refine ex_many (pc' := 55) (ls' := [.ref 33, .int a1, .int a2, .int a3, .int 0]) (st' := []) (mem' := pm_up (pm_up mem 34 a1.toNatClampNeg a2) 35 a1.toNatClampNeg a3) hS hC 2 rfl ?_
          exact k
        · replace k := k.2 (h)
          refine ex_many (pc' := 34) (ls' := [.ref 33, .int a1, .int a2, .int a3, .null]) (st' := [.int 5, .ref 33]) (mem' := mem) hS hC 2 rfl ?_
          refine ex_call (y' := m_X10_met) (rest := []) (ent := [.ref 33, .int 5]) hS hC rfl rfl rfl rfl rfl rfl ?_
          refine bk_X10_met_0 ?_
          show pm_Ex ro m_X10_sheet 37 [.ref 33, .int a1, .int a2, .int a3, .null] [.int ((-10) - (5 : Int32))] (pm_up mem 33 4 (5 : Int32)) Q
          exact ex_ret (v := (some (.int ((-10) - (5 : Int32))))) hS hC rfl rfl rfl k
      · replace k := k.2 (h)
        refine ex_many (pc' := 27) (ls' := [.ref 33, .int a1, .int a2, .int a3, .null]) (st' := [.int (-2)]) (mem' := mem) hS hC 1 rfl ?_
        exact ex_ret (v := (some (.int (-2)))) hS hC rfl rfl rfl k

set_option maxRecDepth 20000 in
theorem bk_X10_sheet_55 {ro : pm_RO} {Q : Option Value → pm_M → Prop} {mem : pm_M} {x1 x2 x3 x4 : Int32} (k : (x3 ≤ x4 → Q (some (.int x3)) mem) ∧ (¬ (x3 ≤ x4) → (pm_inb ((60 * x1) + x4) 240 = true) ∧ (pm_Ex ro m_X10_sheet 55 [.ref 33, .int x1, .int x2, .int x3, .int (x4 + 1)] [] (pm_up mem 36 (((60 * x1) + x4).toNatClampNeg) 0) Q))) : pm_Ex ro m_X10_sheet 55 [.ref 33, .int x1, .int x2, .int x3, .int x4] [] mem Q := by
  have hS : pm_sig[m_X10_sheet]? = some _ := rfl
  have hC : pm_cod[m_X10_sheet]? = some _ := rfl
  refine ex_many (pc' := 58) (ls' := [.ref 33, .int x1, .int x2, .int x3, .int x4]) (st' := [.int x3, .int x4]) (mem' := mem) hS hC 2 rfl ?_
  refine ex_br (P := x3 ≤ x4) (a := 80) (b := 61) (ls' := [.ref 33, .int x1, .int x2, .int x3, .int x4]) (st' := []) (mem' := mem) hS hC rfl (fun h => ?_) (fun h => ?_)
  · replace k := k.1 (h)
    refine ex_many (pc' := 81) (ls' := [.ref 33, .int x1, .int x2, .int x3, .int x4]) (st' := [.int x3]) (mem' := mem) hS hC 1 rfl ?_
    exact ex_ret (v := (some (.int x3))) hS hC rfl rfl rfl k
  · replace k := k.2 (h)
    refine ex_many (pc' := 73) (ls' := [.ref 33, .int x1, .int x2, .int x3, .int x4]) (st' := [.int 0, .int ((60 * x1) + x4), .ref 36]) (mem' := mem) hS hC 8 rfl ?_
    refine ex_grd (b := pm_inb ((60 * x1) + x4) 240) (pc' := 74) (ls' := [.ref 33, .int x1, .int x2, .int x3, .int x4]) (st' := []) (mem' := pm_up mem 36 (((60 * x1) + x4).toNatClampNeg) 0) hS hC rfl k.1 ?_
    replace k := k.2
    refine ex_many (pc' := 55) (ls' := [.ref 33, .int x1, .int x2, .int x3, .int (x4 + 1)]) (st' := []) (mem' := pm_up mem 36 (((60 * x1) + x4).toNatClampNeg) 0) hS hC 2 rfl ?_
    exact k

set_option maxRecDepth 20000 in
theorem bk_X10_lose_0 {ro : pm_RO} {Q : Option Value → pm_M → Prop} {mem : pm_M} {a1 : Int32} (k : (0 ≤ a1 ∧ a1 ≤ 3 → (pm_inb a1 4 = true) ∧ ((0 ≤ (mem 34 a1.toNatClampNeg) → (pm_inb a1 4 = true) ∧ ((pm_inb a1 4 = true) ∧ (Q (some (.int (mem 35 a1.toNatClampNeg))) (pm_up mem 34 a1.toNatClampNeg (-1))))) ∧ (¬ (0 ≤ (mem 34 a1.toNatClampNeg)) → Q (some (.int ((-10) - (1 : Int32)))) (pm_up mem 33 4 (1 : Int32))))) ∧ (¬ (0 ≤ a1 ∧ a1 ≤ 3) → Q (some (.int (-2))) mem)) : pm_Ex ro m_X10_lose 0 [.ref 33, .int a1] [] mem Q := by
  have hS : pm_sig[m_X10_lose]? = some _ := rfl
  have hC : pm_cod[m_X10_lose]? = some _ := rfl
  refine ex_many (pc' := 1) (ls' := [.ref 33, .int a1]) (st' := [.int a1]) (mem' := mem) hS hC 1 rfl ?_
  refine ex_call (y' := m_X10_isSheet) (rest := []) (ent := [.int a1]) hS hC rfl rfl rfl rfl rfl rfl ?_
  refine bk_X10_isSheet_0 ?_
  show pm_Ex ro m_X10_lose 4 [.ref 33, .int a1] [.int (zb (0 ≤ a1 ∧ a1 ≤ 3))] mem Q
  refine ex_br (P := ¬ (zb (0 ≤ a1 ∧ a1 ≤ 3)) = 0) (a := 10) (b := 7) (ls' := [.ref 33, .int a1]) (st' := []) (mem' := mem) hS hC rfl (fun h => ?_) (fun h => ?_)
  · replace k := k.1 (zb1 h)
    refine ex_many (pc' := 15) (ls' := [.ref 33, .int a1]) (st' := [.int a1, .ref 34]) (mem' := mem) hS hC 3 rfl ?_
    refine ex_grd (b := pm_inb a1 4) (pc' := 16) (ls' := [.ref 33, .int a1]) (st' := [.int (mem 34 a1.toNatClampNeg)]) (mem' := mem) hS hC rfl k.1 ?_
    replace k := k.2
    refine ex_br (P := 0 ≤ (mem 34 a1.toNatClampNeg)) (a := 25) (b := 19) (ls' := [.ref 33, .int a1]) (st' := []) (mem' := mem) hS hC rfl (fun h => ?_) (fun h => ?_)
    · replace k := k.1 (h)
      refine ex_many (pc' := 31) (ls' := [.ref 33, .int a1]) (st' := [.int (-1), .int a1, .ref 34]) (mem' := mem) hS hC 4 rfl ?_
      refine ex_grd (b := pm_inb a1 4) (pc' := 32) (ls' := [.ref 33, .int a1]) (st' := []) (mem' := pm_up mem 34 a1.toNatClampNeg (-1)) hS hC rfl k.1 ?_
      replace k := k.2
      refine ex_many (pc' := 37) (ls' := [.ref 33, .int a1]) (st' := [.int a1, .ref 35]) (mem' := pm_up mem 34 a1.toNatClampNeg (-1)) hS hC 3 rfl ?_
      refine ex_grd (b := pm_inb a1 4) (pc' := 38) (ls' := [.ref 33, .int a1]) (st' := [.int (mem 35 a1.toNatClampNeg)]) (mem' := pm_up mem 34 a1.toNatClampNeg (-1)) hS hC rfl k.1 ?_
      replace k := k.2
      exact ex_ret (v := (some (.int (mem 35 a1.toNatClampNeg)))) hS hC rfl rfl rfl k
    · replace k := k.2 (h)
      refine ex_many (pc' := 21) (ls' := [.ref 33, .int a1]) (st' := [.int 1, .ref 33]) (mem' := mem) hS hC 2 rfl ?_
      refine ex_call (y' := m_X10_met) (rest := []) (ent := [.ref 33, .int 1]) hS hC rfl rfl rfl rfl rfl rfl ?_
      refine bk_X10_met_0 ?_
      show pm_Ex ro m_X10_lose 24 [.ref 33, .int a1] [.int ((-10) - (1 : Int32))] (pm_up mem 33 4 (1 : Int32)) Q
      exact ex_ret (v := (some (.int ((-10) - (1 : Int32))))) hS hC rfl rfl rfl k
  · replace k := k.2 (zb0n h)
    refine ex_many (pc' := 9) (ls' := [.ref 33, .int a1]) (st' := [.int (-2)]) (mem' := mem) hS hC 1 rfl ?_
    exact ex_ret (v := (some (.int (-2)))) hS hC rfl rfl rfl k

set_option maxRecDepth 20000 in
theorem bk_X10_lay_0 {ro : pm_RO} {Q : Option Value → pm_M → Prop} {mem : pm_M} {a1 a2 a3 a4 : Int32} (k : (0 ≤ a1 ∧ a1 ≤ 3 → (0 ≤ a2 ∧ a2 ≤ 2 → pm_Ex ro m_X10_lacks 0 [.ref 33, .int a1, .int a2, .int a3] [] mem (fun v m => pm_Ex ro m_X10_lay 29 [.ref 33, .int a1, .int a2, .int a3, .int a4, .null] (v.toList ++ []) m Q)) ∧ (¬ (0 ≤ a2 ∧ a2 ≤ 2) → Q (some (.int (-2))) mem)) ∧ (¬ (0 ≤ a1 ∧ a1 ≤ 3) → Q (some (.int (-2))) mem)) : pm_Ex ro m_X10_lay 0 [.ref 33, .int a1, .int a2, .int a3, .int a4, .null] [] mem Q := by
  have hS : pm_sig[m_X10_lay]? = some _ := rfl
  have hC : pm_cod[m_X10_lay]? = some _ := rfl
  refine ex_many (pc' := 1) (ls' := [.ref 33, .int a1, .int a2, .int a3, .int a4, .null]) (st' := [.int a1]) (mem' := mem) hS hC 1 rfl ?_
  refine ex_call (y' := m_X10_isSheet) (rest := []) (ent := [.int a1]) hS hC rfl rfl rfl rfl rfl rfl ?_
  refine bk_X10_isSheet_0 ?_
  show pm_Ex ro m_X10_lay 4 [.ref 33, .int a1, .int a2, .int a3, .int a4, .null] [.int (zb (0 ≤ a1 ∧ a1 ≤ 3))] mem Q
  refine ex_br (P := (zb (0 ≤ a1 ∧ a1 ≤ 3)) = 0) (a := 19) (b := 7) (ls' := [.ref 33, .int a1, .int a2, .int a3, .int a4, .null]) (st' := []) (mem' := mem) hS hC rfl (fun h => ?_) (fun h => ?_)
  · replace k := k.2 (zb0 h)
    refine ex_many (pc' := 21) (ls' := [.ref 33, .int a1, .int a2, .int a3, .int a4, .null]) (st' := [.int (-2)]) (mem' := mem) hS hC 1 rfl ?_
    exact ex_ret (v := (some (.int (-2)))) hS hC rfl rfl rfl k
  · replace k := k.1 (zb1 h)
    refine ex_many (pc' := 13) (ls' := [.ref 33, .int a1, .int a2, .int a3, .int a4, .null]) (st' := [.long 2, .long 0, .long a2.toInt64]) (mem' := mem) hS hC 4 rfl ?_
    refine ex_call (y' := m_X10_in) (rest := []) (ent := [.long a2.toInt64, .null, .long 0, .null, .long 2, .null]) hS hC rfl rfl rfl rfl rfl rfl ?_
    refine sp_in32 (v := a2) (lo := 0) (hi := 2) (by decide) (by decide) ?_
    show pm_Ex ro m_X10_lay 16 [.ref 33, .int a1, .int a2, .int a3, .int a4, .null] [.int (zb (0 ≤ a2 ∧ a2 ≤ 2))] mem Q
    refine ex_br (P := ¬ (zb (0 ≤ a2 ∧ a2 ≤ 2)) = 0) (a := 22) (b := 19) (ls' := [.ref 33, .int a1, .int a2, .int a3, .int a4, .null]) (st' := []) (mem' := mem) hS hC rfl (fun h => ?_) (fun h => ?_)
    · replace k := k.1 (zb1 h)
      refine ex_many (pc' := 26) (ls' := [.ref 33, .int a1, .int a2, .int a3, .int a4, .null]) (st' := [.int a3, .int a2, .int a1, .ref 33]) (mem' := mem) hS hC 4 rfl ?_
      refine ex_call (y' := m_X10_lacks) (rest := []) (ent := [.ref 33, .int a1, .int a2, .int a3]) hS hC rfl rfl rfl rfl rfl rfl ?_
      exact k
    · replace k := k.2 (zb0n h)
      refine ex_many (pc' := 21) (ls' := [.ref 33, .int a1, .int a2, .int a3, .int a4, .null]) (st' := [.int (-2)]) (mem' := mem) hS hC 1 rfl ?_
      exact ex_ret (v := (some (.int (-2)))) hS hC rfl rfl rfl k

set_option maxRecDepth 20000 in
theorem bk_X10_lay_29 {ro : pm_RO} {Q : Option Value → pm_M → Prop} {mem : pm_M} {x1 x2 x3 x4 s0 : Int32} (k : (s0 = 0 → (pm_inb ((60 * x1) + x3) 240 = true) ∧ (Q (some (.int 1)) (pm_up mem 36 (((60 * x1) + x3).toNatClampNeg) (if ¬ x2 = 0 then (if ¬ x2 = 1 then x4 else x4.toInt16.toInt32 : Int32) else x4.toInt8.toInt32 : Int32)))) ∧ (¬ (s0 = 0) → Q (some (.int s0)) mem)) : pm_Ex ro m_X10_lay 29 [.ref 33, .int x1, .int x2, .int x3, .int x4, .null] [.int s0] mem Q := by
  have hS : pm_sig[m_X10_lay]? = some _ := rfl
  have hC : pm_cod[m_X10_lay]? = some _ := rfl
  refine ex_many (pc' := 33) (ls' := [.ref 33, .int x1, .int x2, .int x3, .int x4, .int s0]) (st' := [.int s0]) (mem' := mem) hS hC 2 rfl ?_
  refine ex_br (P := s0 = 0) (a := 39) (b := 36) (ls' := [.ref 33, .int x1, .int x2, .int x3, .int x4, .int s0]) (st' := []) (mem' := mem) hS hC rfl (fun h => ?_) (fun h => ?_)
  · replace k := k.1 (h)
    refine ex_many (pc' := 52) (ls' := [.ref 33, .int x1, .int x2, .int x3, .int x4, .int s0]) (st' := [.int x4, .int x2, .int ((60 * x1) + x3), .ref 36]) (mem' := mem) hS hC 9 rfl ?_
    refine ex_call (y' := m_X10_cut) (rest := [.int ((60 * x1) + x3), .ref 36]) (ent := [.int x2, .int x4]) hS hC rfl rfl rfl rfl rfl rfl ?_
    refine bk_X10_cut_0 ?_
    show pm_Ex ro m_X10_lay 55 [.ref 33, .int x1, .int x2, .int x3, .int x4, .int s0] [.int (if ¬ x2 = 0 then (if ¬ x2 = 1 then x4 else x4.toInt16.toInt32 : Int32) else x4.toInt8.toInt32 : Int32), .int ((60 * x1) + x3), .ref 36] mem Q
    refine ex_grd (b := pm_inb ((60 * x1) + x3) 240) (pc' := 56) (ls' := [.ref 33, .int x1, .int x2, .int x3, .int x4, .int s0]) (st' := []) (mem' := pm_up mem 36 (((60 * x1) + x3).toNatClampNeg) (if ¬ x2 = 0 then (if ¬ x2 = 1 then x4 else x4.toInt16.toInt32 : Int32) else x4.toInt8.toInt32 : Int32)) hS hC rfl k.1 ?_
    replace k := k.2
    refine ex_many (pc' := 57) (ls' := [.ref 33, .int x1, .int x2, .int x3, .int x4, .int s0]) (st' := [.int 1]) (mem' := pm_up mem 36 (((60 * x1) + x3).toNatClampNeg) (if ¬ x2 = 0 then (if ¬ x2 = 1 then x4 else x4.toInt16.toInt32 : Int32) else x4.toInt8.toInt32 : Int32)) hS hC 1 rfl ?_
    exact ex_ret (v := (some (.int 1))) hS hC rfl rfl rfl k
  · replace k := k.2 (h)
    refine ex_many (pc' := 38) (ls' := [.ref 33, .int x1, .int x2, .int x3, .int x4, .int s0]) (st' := [.int s0]) (mem' := mem) hS hC 1 rfl ?_
    exact ex_ret (v := (some (.int s0))) hS hC rfl rfl rfl k

set_option maxRecDepth 20000 in
theorem bk_X10_get_0 {ro : pm_RO} {Q : Option Value → pm_M → Prop} {mem : pm_M} {a1 a2 a3 : Int32} (k : (0 ≤ a1 ∧ a1 ≤ 3 → (0 ≤ a2 ∧ a2 ≤ 2 → pm_Ex ro m_X10_lacks 0 [.ref 33, .int a1, .int a2, .int a3] [] mem (fun v m => pm_Ex ro m_X10_get 26 [.ref 33, .int a1, .int a2, .int a3] (v.toList ++ []) m Q)) ∧ (¬ (0 ≤ a2 ∧ a2 ≤ 2) → Q (some (.int (-2147483648))) mem)) ∧ (¬ (0 ≤ a1 ∧ a1 ≤ 3) → Q (some (.int (-2147483648))) mem)) : pm_Ex ro m_X10_get 0 [.ref 33, .int a1, .int a2, .int a3] [] mem Q := by
  have hS : pm_sig[m_X10_get]? = some _ := rfl
  have hC : pm_cod[m_X10_get]? = some _ := rfl
  refine ex_many (pc' := 1) (ls' := [.ref 33, .int a1, .int a2, .int a3]) (st' := [.int a1]) (mem' := mem) hS hC 1 rfl ?_
  refine ex_call (y' := m_X10_isSheet) (rest := []) (ent := [.int a1]) hS hC rfl rfl rfl rfl rfl rfl ?_
  refine bk_X10_isSheet_0 ?_
  show pm_Ex ro m_X10_get 4 [.ref 33, .int a1, .int a2, .int a3] [.int (zb (0 ≤ a1 ∧ a1 ≤ 3))] mem Q
  refine ex_br (P := (zb (0 ≤ a1 ∧ a1 ≤ 3)) = 0) (a := 29) (b := 7) (ls' := [.ref 33, .int a1, .int a2, .int a3]) (st' := []) (mem' := mem) hS hC rfl (fun h => ?_) (fun h => ?_)
  · replace k := k.2 (zb0 h)
    refine ex_many (pc' := 31) (ls' := [.ref 33, .int a1, .int a2, .int a3]) (st' := [.int (-2147483648)]) (mem' := mem) hS hC 1 rfl ?_
    exact ex_ret (v := (some (.int (-2147483648)))) hS hC rfl rfl rfl k
  · replace k := k.1 (zb1 h)
    refine ex_many (pc' := 13) (ls' := [.ref 33, .int a1, .int a2, .int a3]) (st' := [.long 2, .long 0, .long a2.toInt64]) (mem' := mem) hS hC 4 rfl ?_
    refine ex_call (y' := m_X10_in) (rest := []) (ent := [.long a2.toInt64, .null, .long 0, .null, .long 2, .null]) hS hC rfl rfl rfl rfl rfl rfl ?_
    refine sp_in32 (v := a2) (lo := 0) (hi := 2) (by decide) (by decide) ?_
    show pm_Ex ro m_X10_get 16 [.ref 33, .int a1, .int a2, .int a3] [.int (zb (0 ≤ a2 ∧ a2 ≤ 2))] mem Q
    refine ex_br (P := (zb (0 ≤ a2 ∧ a2 ≤ 2)) = 0) (a := 29) (b := 19) (ls' := [.ref 33, .int a1, .int a2, .int a3]) (st' := []) (mem' := mem) hS hC rfl (fun h => ?_) (fun h => ?_)
    · replace k := k.2 (zb0 h)
      refine ex_many (pc' := 31) (ls' := [.ref 33, .int a1, .int a2, .int a3]) (st' := [.int (-2147483648)]) (mem' := mem) hS hC 1 rfl ?_
      exact ex_ret (v := (some (.int (-2147483648)))) hS hC rfl rfl rfl k
    · replace k := k.1 (zb1 h)
      refine ex_many (pc' := 23) (ls' := [.ref 33, .int a1, .int a2, .int a3]) (st' := [.int a3, .int a2, .int a1, .ref 33]) (mem' := mem) hS hC 4 rfl ?_
      refine ex_call (y' := m_X10_lacks) (rest := []) (ent := [.ref 33, .int a1, .int a2, .int a3]) hS hC rfl rfl rfl rfl rfl rfl ?_
      exact k

set_option maxRecDepth 20000 in
theorem bk_X10_get_26 {ro : pm_RO} {Q : Option Value → pm_M → Prop} {mem : pm_M} {x1 x2 x3 s0 : Int32} (k : (s0 = 0 → (pm_inb ((60 * x1) + x3) 240 = true) ∧ (Q (some (.int (mem 36 (((60 * x1) + x3).toNatClampNeg)))) mem)) ∧ (¬ (s0 = 0) → Q (some (.int (-2147483648))) mem)) : pm_Ex ro m_X10_get 26 [.ref 33, .int x1, .int x2, .int x3] [.int s0] mem Q := by
  have hS : pm_sig[m_X10_get]? = some _ := rfl
  have hC : pm_cod[m_X10_get]? = some _ := rfl
  refine ex_br (P := s0 = 0) (a := 32) (b := 29) (ls' := [.ref 33, .int x1, .int x2, .int x3]) (st' := []) (mem' := mem) hS hC rfl (fun h => ?_) (fun h => ?_)
  · replace k := k.1 (h)
    refine ex_many (pc' := 42) (ls' := [.ref 33, .int x1, .int x2, .int x3]) (st' := [.int ((60 * x1) + x3), .ref 36]) (mem' := mem) hS hC 7 rfl ?_
    refine ex_grd (b := pm_inb ((60 * x1) + x3) 240) (pc' := 43) (ls' := [.ref 33, .int x1, .int x2, .int x3]) (st' := [.int (mem 36 (((60 * x1) + x3).toNatClampNeg))]) (mem' := mem) hS hC rfl k.1 ?_
    replace k := k.2
    exact ex_ret (v := (some (.int (mem 36 (((60 * x1) + x3).toNatClampNeg))))) hS hC rfl rfl rfl k
  · replace k := k.2 (h)
    refine ex_many (pc' := 31) (ls' := [.ref 33, .int x1, .int x2, .int x3]) (st' := [.int (-2147483648)]) (mem' := mem) hS hC 1 rfl ?_
    exact ex_ret (v := (some (.int (-2147483648)))) hS hC rfl rfl rfl k

set_option maxRecDepth 20000 in
theorem bk_X10_copy_0 {ro : pm_RO} {Q : Option Value → pm_M → Prop} {mem : pm_M} {a1 a2 a3 a4 a5 : Int32} (k : (0 ≤ a1 ∧ a1 ≤ 3 → (0 ≤ a3 ∧ a3 ≤ 3 → (pm_inb a1 4 = true) ∧ (((mem 34 a1.toNatClampNeg) < 0 → Q (some (.int ((-10) - (1 : Int32)))) (pm_up mem 33 4 (1 : Int32))) ∧ (¬ ((mem 34 a1.toNatClampNeg) < 0) → (pm_inb a3 4 = true) ∧ ((0 ≤ (mem 34 a3.toNatClampNeg) → (pm_inb a1 4 = true) ∧ ((pm_inb a3 4 = true) ∧ (((mem 34 a1.toNatClampNeg) = (mem 34 a3.toNatClampNeg) → (a2 < 0 → Q (some (.int ((-10) - (2 : Int32)))) (pm_up mem 33 4 (2 : Int32))) ∧ (¬ (a2 < 0) → (a4 < 0 → Q (some (.int ((-10) - (2 : Int32)))) (pm_up mem 33 4 (2 : Int32))) ∧ (¬ (a4 < 0) → (a5 < 0 → Q (some (.int ((-10) - (2 : Int32)))) (pm_up mem 33 4 (2 : Int32))) ∧ (¬ (a5 < 0) → (pm_inb a1 4 = true) ∧ ((0 < (lg_cmp (a2.toInt64 + a5.toInt64) ((mem 35 a1.toNatClampNeg).toInt64)) → Q (some (.int ((-10) - (2 : Int32)))) (pm_up mem 33 4 (2 : Int32))) ∧ (¬ (0 < (lg_cmp (a2.toInt64 + a5.toInt64) ((mem 35 a1.toNatClampNeg).toInt64))) → (pm_inb a3 4 = true) ∧ (((lg_cmp (a4.toInt64 + a5.toInt64) ((mem 35 a3.toNatClampNeg).toInt64)) ≤ 0 → pm_Ex ro m_X10_copy 120 [.ref 33, .int a1, .int a2, .int a3, .int a4, .int a5, .int 0] [] mem Q) ∧ (¬ ((lg_cmp (a4.toInt64 + a5.toInt64) ((mem 35 a3.toNatClampNeg).toInt64)) ≤ 0) → Q (some (.int ((-10) - (2 : Int32)))) (pm_up mem 33 4 (2 : Int32)))))))))) ∧ (¬ ((mem 34 a1.toNatClampNeg) = (mem 34 a3.toNatClampNeg)) → Q (some (.int ((-10) - (4 : Int32)))) (pm_up mem 33 4 (4 : Int32)))))) ∧ (¬ (0 ≤ (mem 34 a3.toNatClampNeg)) → Q (some (.int ((-10) - (1 : Int32)))) (pm_up mem 33 4 (1 : Int32))))))) ∧ (¬ (0 ≤ a3 ∧ a3 ≤ 3) → Q (some (.int (-2))) mem)) ∧ (¬ (0 ≤ a1 ∧ a1 ≤ 3) → Q (some (.int (-2))) mem)) : pm_Ex ro m_X10_copy 0 [.ref 33, .int a1, .int a2, .int a3, .int a4, .int a5, .null] [] mem Q := by
  have hS : pm_sig[m_X10_copy]? = some _ := rfl
  have hC : pm_cod[m_X10_copy]? = some _ := rfl
  refine ex_many (pc' := 1) (ls' := [.ref 33, .int a1, .int a2, .int a3, .int a4, .int a5, .null]) (st' := [.int a1]) (mem' := mem) hS hC 1 rfl ?_
  refine ex_call (y' := m_X10_isSheet) (rest := []) (ent := [.int a1]) hS hC rfl rfl rfl rfl rfl rfl ?_
  refine bk_X10_isSheet_0 ?_
  show pm_Ex ro m_X10_copy 4 [.ref 33, .int a1, .int a2, .int a3, .int a4, .int a5, .null] [.int (zb (0 ≤ a1 ∧ a1 ≤ 3))] mem Q
  refine ex_br (P := (zb (0 ≤ a1 ∧ a1 ≤ 3)) = 0) (a := 14) (b := 7) (ls' := [.ref 33, .int a1, .int a2, .int a3, .int a4, .int a5, .null]) (st' := []) (mem' := mem) hS hC rfl (fun h => ?_) (fun h => ?_)
  · replace k := k.2 (zb0 h)
    refine ex_many (pc' := 16) (ls' := [.ref 33, .int a1, .int a2, .int a3, .int a4, .int a5, .null]) (st' := [.int (-2)]) (mem' := mem) hS hC 1 rfl ?_
    exact ex_ret (v := (some (.int (-2)))) hS hC rfl rfl rfl k
  · replace k := k.1 (zb1 h)
    refine ex_many (pc' := 8) (ls' := [.ref 33, .int a1, .int a2, .int a3, .int a4, .int a5, .null]) (st' := [.int a3]) (mem' := mem) hS hC 1 rfl ?_
    refine ex_call (y' := m_X10_isSheet) (rest := []) (ent := [.int a3]) hS hC rfl rfl rfl rfl rfl rfl ?_
    refine bk_X10_isSheet_0 ?_
    show pm_Ex ro m_X10_copy 11 [.ref 33, .int a1, .int a2, .int a3, .int a4, .int a5, .null] [.int (zb (0 ≤ a3 ∧ a3 ≤ 3))] mem Q
    refine ex_br (P := ¬ (zb (0 ≤ a3 ∧ a3 ≤ 3)) = 0) (a := 17) (b := 14) (ls' := [.ref 33, .int a1, .int a2, .int a3, .int a4, .int a5, .null]) (st' := []) (mem' := mem) hS hC rfl (fun h => ?_) (fun h => ?_)
    · replace k := k.1 (zb1 h)
      refine ex_many (pc' := 22) (ls' := [.ref 33, .int a1, .int a2, .int a3, .int a4, .int a5, .null]) (st' := [.int a1, .ref 34]) (mem' := mem) hS hC 3 rfl ?_
      refine ex_grd (b := pm_inb a1 4) (pc' := 23) (ls' := [.ref 33, .int a1, .int a2, .int a3, .int a4, .int a5, .null]) (st' := [.int (mem 34 a1.toNatClampNeg)]) (mem' := mem) hS hC rfl k.1 ?_
      replace k := k.2
      refine ex_br (P := (mem 34 a1.toNatClampNeg) < 0) (a := 35) (b := 26) (ls' := [.ref 33, .int a1, .int a2, .int a3, .int a4, .int a5, .null]) (st' := []) (mem' := mem) hS hC rfl (fun h => ?_) (fun h => ?_)
      · replace k := k.1 (h)
        refine ex_many (pc' := 37) (ls' := [.ref 33, .int a1, .int a2, .int a3, .int a4, .int a5, .null]) (st' := [.int 1, .ref 33]) (mem' := mem) hS hC 2 rfl ?_
        refine ex_call (y' := m_X10_met) (rest := []) (ent := [.ref 33, .int 1]) hS hC rfl rfl rfl rfl rfl rfl ?_
        refine bk_X10_met_0 ?_
        show pm_Ex ro m_X10_copy 40 [.ref 33, .int a1, .int a2, .int a3, .int a4, .int a5, .null] [.int ((-10) - (1 : Int32))] (pm_up mem 33 4 (1 : Int32)) Q
        exact ex_ret (v := (some (.int ((-10) - (1 : Int32))))) hS hC rfl rfl rfl k
      · replace k := k.2 (h)
        refine ex_many (pc' := 31) (ls' := [.ref 33, .int a1, .int a2, .int a3, .int a4, .int a5, .null]) (st' := [.int a3, .ref 34]) (mem' := mem) hS hC 3 rfl ?_
        refine ex_grd (b := pm_inb a3 4) (pc' := 32) (ls' := [.ref 33, .int a1, .int a2, .int a3, .int a4, .int a5, .null]) (st' := [.int (mem 34 a3.toNatClampNeg)]) (mem' := mem) hS hC rfl k.1 ?_
        replace k := k.2
        refine ex_br (P := 0 ≤ (mem 34 a3.toNatClampNeg)) (a := 41) (b := 35) (ls' := [.ref 33, .int a1, .int a2, .int a3, .int a4, .int a5, .null]) (st' := []) (mem' := mem) hS hC rfl (fun h => ?_) (fun h => ?_)
        · replace k := k.1 (h)
          refine ex_many (pc' := 46) (ls' := [.ref 33, .int a1, .int a2, .int a3, .int a4, .int a5, .null]) (st' := [.int a1, .ref 34]) (mem' := mem) hS hC 3 rfl ?_
          refine ex_grd (b := pm_inb a1 4) (pc' := 47) (ls' := [.ref 33, .int a1, .int a2, .int a3, .int a4, .int a5, .null]) (st' := [.int (mem 34 a1.toNatClampNeg)]) (mem' := mem) hS hC rfl k.1 ?_
          replace k := k.2
          refine ex_many (pc' := 52) (ls' := [.ref 33, .int a1, .int a2, .int a3, .int a4, .int a5, .null]) (st' := [.int a3, .ref 34, .int (mem 34 a1.toNatClampNeg)]) (mem' := mem) hS hC 3 rfl ?_
          refine ex_grd (b := pm_inb a3 4) (pc' := 53) (ls' := [.ref 33, .int a1, .int a2, .int a3, .int a4, .int a5, .null]) (st' := [.int (mem 34 a3.toNatClampNeg), .int (mem 34 a1.toNatClampNeg)]) (mem' := mem) hS hC rfl k.1 ?_
          replace k := k.2
          refine ex_br (P := (mem 34 a1.toNatClampNeg) = (mem 34 a3.toNatClampNeg)) (a := 62) (b := 56) (ls' := [.ref 33, .int a1, .int a2, .int a3, .int a4, .int a5, .null]) (st' := []) (mem' := mem) hS hC rfl (fun h => ?_) (fun h => ?_)
          · replace k := k.1 (h)
            refine ex_many (pc' := 63) (ls' := [.ref 33, .int a1, .int a2, .int a3, .int a4, .int a5, .null]) (st' := [.int a2]) (mem' := mem) hS hC 1 rfl ?_
            refine ex_br (P := a2 < 0) (a := 111) (b := 66) (ls' := [.ref 33, .int a1, .int a2, .int a3, .int a4, .int a5, .null]) (st' := []) (mem' := mem) hS hC rfl (fun h => ?_) (fun h => ?_)
            · replace k := k.1 (h)
              refine ex_many (pc' := 113) (ls' := [.ref 33, .int a1, .int a2, .int a3, .int a4, .int a5, .null]) (st' := [.int 2, .ref 33]) (mem' := mem) hS hC 2 rfl ?_
              refine ex_call (y' := m_X10_met) (rest := []) (ent := [.ref 33, .int 2]) hS hC rfl rfl rfl rfl rfl rfl ?_
              refine bk_X10_met_0 ?_
              show pm_Ex ro m_X10_copy 116 [.ref 33, .int a1, .int a2, .int a3, .int a4, .int a5, .null] [.int ((-10) - (2 : Int32))] (pm_up mem 33 4 (2 : Int32)) Q
              exact ex_ret (v := (some (.int ((-10) - (2 : Int32))))) hS hC rfl rfl rfl k
            · replace k := k.2 (h)
              refine ex_many (pc' := 68) (ls' := [.ref 33, .int a1, .int a2, .int a3, .int a4, .int a5, .null]) (st' := [.int a4]) (mem' := mem) hS hC 1 rfl ?_
              refine ex_br (P := a4 < 0) (a := 111) (b := 71) (ls' := [.ref 33, .int a1, .int a2, .int a3, .int a4, .int a5, .null]) (st' := []) (mem' := mem) hS hC rfl (fun h => ?_) (fun h => ?_)
              · replace k := k.1 (h)
                refine ex_many (pc' := 113) (ls' := [.ref 33, .int a1, .int a2, .int a3, .int a4, .int a5, .null]) (st' := [.int 2, .ref 33]) (mem' := mem) hS hC 2 rfl ?_
                refine ex_call (y' := m_X10_met) (rest := []) (ent := [.ref 33, .int 2]) hS hC rfl rfl rfl rfl rfl rfl ?_
                refine bk_X10_met_0 ?_
                show pm_Ex ro m_X10_copy 116 [.ref 33, .int a1, .int a2, .int a3, .int a4, .int a5, .null] [.int ((-10) - (2 : Int32))] (pm_up mem 33 4 (2 : Int32)) Q
                exact ex_ret (v := (some (.int ((-10) - (2 : Int32))))) hS hC rfl rfl rfl k
              · replace k := k.2 (h)
                refine ex_many (pc' := 73) (ls' := [.ref 33, .int a1, .int a2, .int a3, .int a4, .int a5, .null]) (st' := [.int a5]) (mem' := mem) hS hC 1 rfl ?_
                refine ex_br (P := a5 < 0) (a := 111) (b := 76) (ls' := [.ref 33, .int a1, .int a2, .int a3, .int a4, .int a5, .null]) (st' := []) (mem' := mem) hS hC rfl (fun h => ?_) (fun h => ?_)
                · replace k := k.1 (h)
                  refine ex_many (pc' := 113) (ls' := [.ref 33, .int a1, .int a2, .int a3, .int a4, .int a5, .null]) (st' := [.int 2, .ref 33]) (mem' := mem) hS hC 2 rfl ?_
                  refine ex_call (y' := m_X10_met) (rest := []) (ent := [.ref 33, .int 2]) hS hC rfl rfl rfl rfl rfl rfl ?_
                  refine bk_X10_met_0 ?_
                  show pm_Ex ro m_X10_copy 116 [.ref 33, .int a1, .int a2, .int a3, .int a4, .int a5, .null] [.int ((-10) - (2 : Int32))] (pm_up mem 33 4 (2 : Int32)) Q
                  exact ex_ret (v := (some (.int ((-10) - (2 : Int32))))) hS hC rfl rfl rfl k
                · replace k := k.2 (h)
                  refine ex_many (pc' := 87) (ls' := [.ref 33, .int a1, .int a2, .int a3, .int a4, .int a5, .null]) (st' := [.int a1, .ref 35, .long (a2.toInt64 + a5.toInt64)]) (mem' := mem) hS hC 8 rfl ?_
                  refine ex_grd (b := pm_inb a1 4) (pc' := 88) (ls' := [.ref 33, .int a1, .int a2, .int a3, .int a4, .int a5, .null]) (st' := [.int (mem 35 a1.toNatClampNeg), .long (a2.toInt64 + a5.toInt64)]) (mem' := mem) hS hC rfl k.1 ?_
                  replace k := k.2
                  refine ex_many (pc' := 90) (ls' := [.ref 33, .int a1, .int a2, .int a3, .int a4, .int a5, .null]) (st' := [.int (lg_cmp (a2.toInt64 + a5.toInt64) ((mem 35 a1.toNatClampNeg).toInt64))]) (mem' := mem) hS hC 2 rfl ?_
                  refine ex_br (P := 0 < (lg_cmp (a2.toInt64 + a5.toInt64) ((mem 35 a1.toNatClampNeg).toInt64))) (a := 111) (b := 93) (ls' := [.ref 33, .int a1, .int a2, .int a3, .int a4, .int a5, .null]) (st' := []) (mem' := mem) hS hC rfl (fun h => ?_) (fun h => ?_)
                  · replace k := k.1 (h)
                    refine ex_many (pc' := 113) (ls' := [.ref 33, .int a1, .int a2, .int a3, .int a4, .int a5, .null]) (st' := [.int 2, .ref 33]) (mem' := mem) hS hC 2 rfl ?_
                    refine ex_call (y' := m_X10_met) (rest := []) (ent := [.ref 33, .int 2]) hS hC rfl rfl rfl rfl rfl rfl ?_
                    refine bk_X10_met_0 ?_
                    show pm_Ex ro m_X10_copy 116 [.ref 33, .int a1, .int a2, .int a3, .int a4, .int a5, .null] [.int ((-10) - (2 : Int32))] (pm_up mem 33 4 (2 : Int32)) Q
                    exact ex_ret (v := (some (.int ((-10) - (2 : Int32))))) hS hC rfl rfl rfl k
                  · replace k := k.2 (h)
                    refine ex_many (pc' := 105) (ls' := [.ref 33, .int a1, .int a2, .int a3, .int a4, .int a5, .null]) (st' := [.int a3, .ref 35, .long (a4.toInt64 + a5.toInt64)]) (mem' := mem) hS hC 8 rfl ?_
                    refine ex_grd (b := pm_inb a3 4) (pc' := 106) (ls' := [.ref 33, .int a1, .int a2, .int a3, .int a4, .int a5, .null]) (st' := [.int (mem 35 a3.toNatClampNeg), .long (a4.toInt64 + a5.toInt64)]) (mem' := mem) hS hC rfl k.1 ?_
                    replace k := k.2
                    refine ex_many (pc' := 108) (ls' := [.ref 33, .int a1, .int a2, .int a3, .int a4, .int a5, .null]) (st' := [.int (lg_cmp (a4.toInt64 + a5.toInt64) ((mem 35 a3.toNatClampNeg).toInt64))]) (mem' := mem) hS hC 2 rfl ?_
                    refine ex_br (P := (lg_cmp (a4.toInt64 + a5.toInt64) ((mem 35 a3.toNatClampNeg).toInt64)) ≤ 0) (a := 117) (b := 111) (ls' := [.ref 33, .int a1, .int a2, .int a3, .int a4, .int a5, .null]) (st' := []) (mem' := mem) hS hC rfl (fun h => ?_) (fun h => ?_)
                    · replace k := k.1 (h)
                      refine ex_many (pc' := 120) (ls' := [.ref 33, .int a1, .int a2, .int a3, .int a4, .int a5, .int 0]) (st' := []) (mem' := mem) hS hC 2 rfl ?_
                      exact k
                    · replace k := k.2 (h)
                      refine ex_many (pc' := 113) (ls' := [.ref 33, .int a1, .int a2, .int a3, .int a4, .int a5, .null]) (st' := [.int 2, .ref 33]) (mem' := mem) hS hC 2 rfl ?_
                      refine ex_call (y' := m_X10_met) (rest := []) (ent := [.ref 33, .int 2]) hS hC rfl rfl rfl rfl rfl rfl ?_
                      refine bk_X10_met_0 ?_
                      show pm_Ex ro m_X10_copy 116 [.ref 33, .int a1, .int a2, .int a3, .int a4, .int a5, .null] [.int ((-10) - (2 : Int32))] (pm_up mem 33 4 (2 : Int32)) Q
                      exact ex_ret (v := (some (.int ((-10) - (2 : Int32))))) hS hC rfl rfl rfl k
          · replace k := k.2 (h)
            refine ex_many (pc' := 58) (ls' := [.ref 33, .int a1, .int a2, .int a3, .int a4, .int a5, .null]) (st' := [.int 4, .ref 33]) (mem' := mem) hS hC 2 rfl ?_
            refine ex_call (y' := m_X10_met) (rest := []) (ent := [.ref 33, .int 4]) hS hC rfl rfl rfl rfl rfl rfl ?_
            refine bk_X10_met_0 ?_
            show pm_Ex ro m_X10_copy 61 [.ref 33, .int a1, .int a2, .int a3, .int a4, .int a5, .null] [.int ((-10) - (4 : Int32))] (pm_up mem 33 4 (4 : Int32)) Q
            exact ex_ret (v := (some (.int ((-10) - (4 : Int32))))) hS hC rfl rfl rfl k
        · replace k := k.2 (h)
          refine ex_many (pc' := 37) (ls' := [.ref 33, .int a1, .int a2, .int a3, .int a4, .int a5, .null]) (st' := [.int 1, .ref 33]) (mem' := mem) hS hC 2 rfl ?_
          refine ex_call (y' := m_X10_met) (rest := []) (ent := [.ref 33, .int 1]) hS hC rfl rfl rfl rfl rfl rfl ?_
          refine bk_X10_met_0 ?_
          show pm_Ex ro m_X10_copy 40 [.ref 33, .int a1, .int a2, .int a3, .int a4, .int a5, .null] [.int ((-10) - (1 : Int32))] (pm_up mem 33 4 (1 : Int32)) Q
          exact ex_ret (v := (some (.int ((-10) - (1 : Int32))))) hS hC rfl rfl rfl k
    · replace k := k.2 (zb0n h)
      refine ex_many (pc' := 16) (ls' := [.ref 33, .int a1, .int a2, .int a3, .int a4, .int a5, .null]) (st' := [.int (-2)]) (mem' := mem) hS hC 1 rfl ?_
      exact ex_ret (v := (some (.int (-2)))) hS hC rfl rfl rfl k

set_option maxRecDepth 20000 in
theorem bk_X10_copy_120 {ro : pm_RO} {Q : Option Value → pm_M → Prop} {mem : pm_M} {x1 x2 x3 x4 x5 x6 : Int32} (k : (x5 ≤ x6 → pm_Ex ro m_X10_copy 157 [.ref 33, .int x1, .int x2, .int x3, .int x4, .int x5, .int 0] [] mem Q) ∧ (¬ (x5 ≤ x6) → (pm_inb (((60 * x1) + x2) + x6) 240 = true) ∧ ((pm_inb x6 60 = true) ∧ (pm_Ex ro m_X10_copy 120 [.ref 33, .int x1, .int x2, .int x3, .int x4, .int x5, .int (x6 + 1)] [] (pm_up mem 37 x6.toNatClampNeg (mem 36 ((((60 * x1) + x2) + x6).toNatClampNeg))) Q)))) : pm_Ex ro m_X10_copy 120 [.ref 33, .int x1, .int x2, .int x3, .int x4, .int x5, .int x6] [] mem Q := by
  have hS : pm_sig[m_X10_copy]? = some _ := rfl
  have hC : pm_cod[m_X10_copy]? = some _ := rfl
  refine ex_many (pc' := 124) (ls' := [.ref 33, .int x1, .int x2, .int x3, .int x4, .int x5, .int x6]) (st' := [.int x5, .int x6]) (mem' := mem) hS hC 2 rfl ?_
  refine ex_br (P := x5 ≤ x6) (a := 154) (b := 127) (ls' := [.ref 33, .int x1, .int x2, .int x3, .int x4, .int x5, .int x6]) (st' := []) (mem' := mem) hS hC rfl (fun h => ?_) (fun h => ?_)
  · replace k := k.1 (h)
    refine ex_many (pc' := 157) (ls' := [.ref 33, .int x1, .int x2, .int x3, .int x4, .int x5, .int 0]) (st' := []) (mem' := mem) hS hC 2 rfl ?_
    exact k
  · replace k := k.2 (h)
    refine ex_many (pc' := 146) (ls' := [.ref 33, .int x1, .int x2, .int x3, .int x4, .int x5, .int x6]) (st' := [.int (((60 * x1) + x2) + x6), .ref 36, .int x6, .ref 37]) (mem' := mem) hS hC 12 rfl ?_
    refine ex_grd (b := pm_inb (((60 * x1) + x2) + x6) 240) (pc' := 147) (ls' := [.ref 33, .int x1, .int x2, .int x3, .int x4, .int x5, .int x6]) (st' := [.int (mem 36 ((((60 * x1) + x2) + x6).toNatClampNeg)), .int x6, .ref 37]) (mem' := mem) hS hC rfl k.1 ?_
    replace k := k.2
    refine ex_grd (b := pm_inb x6 60) (pc' := 148) (ls' := [.ref 33, .int x1, .int x2, .int x3, .int x4, .int x5, .int x6]) (st' := []) (mem' := pm_up mem 37 x6.toNatClampNeg (mem 36 ((((60 * x1) + x2) + x6).toNatClampNeg))) hS hC rfl k.1 ?_
    replace k := k.2
    refine ex_many (pc' := 120) (ls' := [.ref 33, .int x1, .int x2, .int x3, .int x4, .int x5, .int (x6 + 1)]) (st' := []) (mem' := pm_up mem 37 x6.toNatClampNeg (mem 36 ((((60 * x1) + x2) + x6).toNatClampNeg))) hS hC 2 rfl ?_
    exact k

set_option maxRecDepth 20000 in
theorem bk_X10_copy_157 {ro : pm_RO} {Q : Option Value → pm_M → Prop} {mem : pm_M} {x1 x2 x3 x4 x5 x6 : Int32} (k : (x5 ≤ x6 → Q (some (.int 1)) mem) ∧ (¬ (x5 ≤ x6) → (pm_inb x6 60 = true) ∧ ((pm_inb (((60 * x3) + x4) + x6) 240 = true) ∧ (pm_Ex ro m_X10_copy 157 [.ref 33, .int x1, .int x2, .int x3, .int x4, .int x5, .int (x6 + 1)] [] (pm_up mem 36 ((((60 * x3) + x4) + x6).toNatClampNeg) (mem 37 x6.toNatClampNeg)) Q)))) : pm_Ex ro m_X10_copy 157 [.ref 33, .int x1, .int x2, .int x3, .int x4, .int x5, .int x6] [] mem Q := by
  have hS : pm_sig[m_X10_copy]? = some _ := rfl
  have hC : pm_cod[m_X10_copy]? = some _ := rfl
  refine ex_many (pc' := 161) (ls' := [.ref 33, .int x1, .int x2, .int x3, .int x4, .int x5, .int x6]) (st' := [.int x5, .int x6]) (mem' := mem) hS hC 2 rfl ?_
  refine ex_br (P := x5 ≤ x6) (a := 192) (b := 164) (ls' := [.ref 33, .int x1, .int x2, .int x3, .int x4, .int x5, .int x6]) (st' := []) (mem' := mem) hS hC rfl (fun h => ?_) (fun h => ?_)
  · replace k := k.1 (h)
    refine ex_many (pc' := 193) (ls' := [.ref 33, .int x1, .int x2, .int x3, .int x4, .int x5, .int x6]) (st' := [.int 1]) (mem' := mem) hS hC 1 rfl ?_
    exact ex_ret (v := (some (.int 1))) hS hC rfl rfl rfl k
  · replace k := k.2 (h)
    refine ex_many (pc' := 184) (ls' := [.ref 33, .int x1, .int x2, .int x3, .int x4, .int x5, .int x6]) (st' := [.int x6, .ref 37, .int (((60 * x3) + x4) + x6), .ref 36]) (mem' := mem) hS hC 12 rfl ?_
    refine ex_grd (b := pm_inb x6 60) (pc' := 185) (ls' := [.ref 33, .int x1, .int x2, .int x3, .int x4, .int x5, .int x6]) (st' := [.int (mem 37 x6.toNatClampNeg), .int (((60 * x3) + x4) + x6), .ref 36]) (mem' := mem) hS hC rfl k.1 ?_
    replace k := k.2
    refine ex_grd (b := pm_inb (((60 * x3) + x4) + x6) 240) (pc' := 186) (ls' := [.ref 33, .int x1, .int x2, .int x3, .int x4, .int x5, .int x6]) (st' := []) (mem' := pm_up mem 36 ((((60 * x3) + x4) + x6).toNatClampNeg) (mem 37 x6.toNatClampNeg)) hS hC rfl k.1 ?_
    replace k := k.2
    refine ex_many (pc' := 157) (ls' := [.ref 33, .int x1, .int x2, .int x3, .int x4, .int x5, .int (x6 + 1)]) (st' := []) (mem' := pm_up mem 36 ((((60 * x3) + x4) + x6).toNatClampNeg) (mem 37 x6.toNatClampNeg)) hS hC 2 rfl ?_
    exact k

set_option maxRecDepth 20000 in
theorem bk_X10_type_0 {ro : pm_RO} {Q : Option Value → pm_M → Prop} {mem : pm_M} {a1 : Int32} (k : (0 ≤ a1 ∧ a1 ≤ 255 → (¬ (mem 33 6) = 50 → (pm_inb (mem 33 6) 50 = true) ∧ (Q (some (.int ((pm_up (pm_up mem 38 ((mem 33 6).toNatClampNeg) a1) 33 6 ((mem 33 6) + 1)) 33 6))) (pm_up (pm_up mem 38 ((mem 33 6).toNatClampNeg) a1) 33 6 ((mem 33 6) + 1)))) ∧ (¬ (¬ (mem 33 6) = 50) → Q (some (.int (-4))) mem)) ∧ (¬ (0 ≤ a1 ∧ a1 ≤ 255) → Q (some (.int (-2))) mem)) : pm_Ex ro m_X10_type 0 [.ref 33, .int a1] [] mem Q := by
  have hS : pm_sig[m_X10_type]? = some _ := rfl
  have hC : pm_cod[m_X10_type]? = some _ := rfl
  refine ex_many (pc' := 6) (ls' := [.ref 33, .int a1]) (st' := [.long 255, .long 0, .long a1.toInt64]) (mem' := mem) hS hC 4 rfl ?_
  refine ex_call (y' := m_X10_in) (rest := []) (ent := [.long a1.toInt64, .null, .long 0, .null, .long 255, .null]) hS hC rfl rfl rfl rfl rfl rfl ?_
  refine sp_in32 (v := a1) (lo := 0) (hi := 255) (by decide) (by decide) ?_
  show pm_Ex ro m_X10_type 9 [.ref 33, .int a1] [.int (zb (0 ≤ a1 ∧ a1 ≤ 255))] mem Q
  refine ex_br (P := ¬ (zb (0 ≤ a1 ∧ a1 ≤ 255)) = 0) (a := 15) (b := 12) (ls' := [.ref 33, .int a1]) (st' := []) (mem' := mem) hS hC rfl (fun h => ?_) (fun h => ?_)
  · replace k := k.1 (zb1 h)
    refine ex_many (pc' := 21) (ls' := [.ref 33, .int a1]) (st' := [.int 50, .int (mem 33 6)]) (mem' := mem) hS hC 3 rfl ?_
    refine ex_br (P := ¬ (mem 33 6) = 50) (a := 27) (b := 24) (ls' := [.ref 33, .int a1]) (st' := []) (mem' := mem) hS hC rfl (fun h => ?_) (fun h => ?_)
    · replace k := k.1 (h)
      refine ex_many (pc' := 36) (ls' := [.ref 33, .int a1]) (st' := [.int a1, .int (mem 33 6), .ref 38]) (mem' := mem) hS hC 5 rfl ?_
      refine ex_grd (b := pm_inb (mem 33 6) 50) (pc' := 37) (ls' := [.ref 33, .int a1]) (st' := []) (mem' := pm_up mem 38 ((mem 33 6).toNatClampNeg) a1) hS hC rfl k.1 ?_
      replace k := k.2
      refine ex_many (pc' := 51) (ls' := [.ref 33, .int a1]) (st' := [.int ((pm_up (pm_up mem 38 ((mem 33 6).toNatClampNeg) a1) 33 6 ((mem 33 6) + 1)) 33 6)]) (mem' := pm_up (pm_up mem 38 ((mem 33 6).toNatClampNeg) a1) 33 6 ((mem 33 6) + 1)) hS hC 8 rfl ?_
      exact ex_ret (v := (some (.int ((pm_up (pm_up mem 38 ((mem 33 6).toNatClampNeg) a1) 33 6 ((mem 33 6) + 1)) 33 6)))) hS hC rfl rfl rfl k
    · replace k := k.2 (h)
      refine ex_many (pc' := 26) (ls' := [.ref 33, .int a1]) (st' := [.int (-4)]) (mem' := mem) hS hC 1 rfl ?_
      exact ex_ret (v := (some (.int (-4)))) hS hC rfl rfl rfl k
  · replace k := k.2 (zb0n h)
    refine ex_many (pc' := 14) (ls' := [.ref 33, .int a1]) (st' := [.int (-2)]) (mem' := mem) hS hC 1 rfl ?_
    exact ex_ret (v := (some (.int (-2)))) hS hC rfl rfl rfl k

set_option maxRecDepth 20000 in
theorem bk_X10_wipe_0 {ro : pm_RO} {Q : Option Value → pm_M → Prop} {mem : pm_M} (k : Q (some (.int (mem 33 6))) (pm_up mem 33 6 0)) : pm_Ex ro m_X10_wipe 0 [.ref 33, .null] [] mem Q := by
  have hS : pm_sig[m_X10_wipe]? = some _ := rfl
  have hC : pm_cod[m_X10_wipe]? = some _ := rfl
  refine ex_many (pc' := 11) (ls' := [.ref 33, .int (mem 33 6)]) (st' := [.int (mem 33 6)]) (mem' := pm_up mem 33 6 0) hS hC 7 rfl ?_
  exact ex_ret (v := (some (.int (mem 33 6)))) hS hC rfl rfl rfl k

set_option maxRecDepth 20000 in
theorem bk_X10_readsPart_0 {ro : pm_RO} {Q : Option Value → pm_M → Prop} {mem : pm_M} (k : (¬ (mem 33 8) = 8 → pm_Ex ro m_X10_readsPart 18 [.ref 33, .int (mem 33 7), .int 0] [] mem Q) ∧ (¬ (¬ (mem 33 8) = 8) → Q (some (.int 0)) mem)) : pm_Ex ro m_X10_readsPart 0 [.ref 33, .null, .null] [] mem Q := by
  have hS : pm_sig[m_X10_readsPart]? = some _ := rfl
  have hC : pm_cod[m_X10_readsPart]? = some _ := rfl
  refine ex_many (pc' := 6) (ls' := [.ref 33, .null, .null]) (st' := [.int 8, .int (mem 33 8)]) (mem' := mem) hS hC 3 rfl ?_
  refine ex_br (P := ¬ (mem 33 8) = 8) (a := 11) (b := 9) (ls' := [.ref 33, .null, .null]) (st' := []) (mem' := mem) hS hC rfl (fun h => ?_) (fun h => ?_)
  · replace k := k.1 (h)
    refine ex_many (pc' := 18) (ls' := [.ref 33, .int (mem 33 7), .int 0]) (st' := []) (mem' := mem) hS hC 5 rfl ?_
    exact k
  · replace k := k.2 (h)
    refine ex_many (pc' := 10) (ls' := [.ref 33, .null, .null]) (st' := [.int 0]) (mem' := mem) hS hC 1 rfl ?_
    exact ex_ret (v := (some (.int 0))) hS hC rfl rfl rfl k

set_option maxRecDepth 20000 in
theorem bk_X10_readsPart_18 {ro : pm_RO} {Q : Option Value → pm_M → Prop} {mem : pm_M} {x1 x2 : Int32} (k : ((x1 + 3) ≤ (mem 33 7) → (¬ x2 = 0 → pm_Ex ro m_X10_here 0 [.ref 33] [] mem (fun v m => pm_Ex ro m_X10_readsPart 86 [.ref 33, .int x1, .int x2] (v.toList ++ []) m Q)) ∧ (¬ (¬ x2 = 0) → Q (some (.int 0)) (pm_up mem 33 7 x1))) ∧ (¬ ((x1 + 3) ≤ (mem 33 7)) → pm_Ex ro m_X10_here 0 [.ref 33] [] mem (fun v m => pm_Ex ro m_X10_readsPart 32 [.ref 33, .int x1, .int x2] (v.toList ++ []) m Q))) : pm_Ex ro m_X10_readsPart 18 [.ref 33, .int x1, .int x2] [] mem Q := by
  have hS : pm_sig[m_X10_readsPart]? = some _ := rfl
  have hC : pm_cod[m_X10_readsPart]? = some _ := rfl
  refine ex_many (pc' := 25) (ls' := [.ref 33, .int x1, .int x2]) (st' := [.int (x1 + 3), .int (mem 33 7)]) (mem' := mem) hS hC 5 rfl ?_
  refine ex_br (P := (x1 + 3) ≤ (mem 33 7)) (a := 71) (b := 28) (ls' := [.ref 33, .int x1, .int x2]) (st' := []) (mem' := mem) hS hC rfl (fun h => ?_) (fun h => ?_)
  · replace k := k.1 (h)
    refine ex_many (pc' := 72) (ls' := [.ref 33, .int x1, .int x2]) (st' := [.int x2]) (mem' := mem) hS hC 1 rfl ?_
    refine ex_br (P := ¬ x2 = 0) (a := 82) (b := 75) (ls' := [.ref 33, .int x1, .int x2]) (st' := []) (mem' := mem) hS hC rfl (fun h => ?_) (fun h => ?_)
    · replace k := k.1 (h)
      refine ex_many (pc' := 83) (ls' := [.ref 33, .int x1, .int x2]) (st' := [.ref 33]) (mem' := mem) hS hC 1 rfl ?_
      refine ex_call (y' := m_X10_here) (rest := []) (ent := [.ref 33]) hS hC rfl rfl rfl rfl rfl rfl ?_
      exact k
    · replace k := k.2 (h)
      refine ex_many (pc' := 81) (ls' := [.ref 33, .int x1, .int x2]) (st' := [.int 0]) (mem' := pm_up mem 33 7 x1) hS hC 4 rfl ?_
      exact ex_ret (v := (some (.int 0))) hS hC rfl rfl rfl k
  · replace k := k.2 (h)
    refine ex_many (pc' := 29) (ls' := [.ref 33, .int x1, .int x2]) (st' := [.ref 33]) (mem' := mem) hS hC 1 rfl ?_
    refine ex_call (y' := m_X10_here) (rest := []) (ent := [.ref 33]) hS hC rfl rfl rfl rfl rfl rfl ?_
    exact k

set_option maxRecDepth 20000 in
theorem bk_X10_readsPart_32 {ro : pm_RO} {Q : Option Value → pm_M → Prop} {mem : pm_M} {x1 x2 s0 : Int32} (k : (48 ≤ s0 ∧ s0 ≤ 57 → pm_Ex ro m_X10_here 0 [.ref 33] [] mem (fun v m => pm_Ex ro m_X10_readsPart 53 [.ref 33, .int x1, .int x2] (v.toList ++ [.int (10 * x2)]) m Q)) ∧ (¬ (48 ≤ s0 ∧ s0 ≤ 57) → (¬ x2 = 0 → pm_Ex ro m_X10_here 0 [.ref 33] [] mem (fun v m => pm_Ex ro m_X10_readsPart 86 [.ref 33, .int x1, .int x2] (v.toList ++ []) m Q)) ∧ (¬ (¬ x2 = 0) → Q (some (.int 0)) (pm_up mem 33 7 x1)))) : pm_Ex ro m_X10_readsPart 32 [.ref 33, .int x1, .int x2] [.int s0] mem Q := by
  have hS : pm_sig[m_X10_readsPart]? = some _ := rfl
  have hC : pm_cod[m_X10_readsPart]? = some _ := rfl
  refine ex_many (pc' := 39) (ls' := [.ref 33, .int x1, .int x2]) (st' := [.long 57, .long 48, .long s0.toInt64]) (mem' := mem) hS hC 3 rfl ?_
  refine ex_call (y' := m_X10_in) (rest := []) (ent := [.long s0.toInt64, .null, .long 48, .null, .long 57, .null]) hS hC rfl rfl rfl rfl rfl rfl ?_
  refine sp_in32 (v := s0) (lo := 48) (hi := 57) (by decide) (by decide) ?_
  show pm_Ex ro m_X10_readsPart 42 [.ref 33, .int x1, .int x2] [.int (zb (48 ≤ s0 ∧ s0 ≤ 57))] mem Q
  refine ex_br (P := (zb (48 ≤ s0 ∧ s0 ≤ 57)) = 0) (a := 71) (b := 45) (ls' := [.ref 33, .int x1, .int x2]) (st' := []) (mem' := mem) hS hC rfl (fun h => ?_) (fun h => ?_)
  · replace k := k.2 (zb0 h)
    refine ex_many (pc' := 72) (ls' := [.ref 33, .int x1, .int x2]) (st' := [.int x2]) (mem' := mem) hS hC 1 rfl ?_
    refine ex_br (P := ¬ x2 = 0) (a := 82) (b := 75) (ls' := [.ref 33, .int x1, .int x2]) (st' := []) (mem' := mem) hS hC rfl (fun h => ?_) (fun h => ?_)
    · replace k := k.1 (h)
      refine ex_many (pc' := 83) (ls' := [.ref 33, .int x1, .int x2]) (st' := [.ref 33]) (mem' := mem) hS hC 1 rfl ?_
      refine ex_call (y' := m_X10_here) (rest := []) (ent := [.ref 33]) hS hC rfl rfl rfl rfl rfl rfl ?_
      exact k
    · replace k := k.2 (h)
      refine ex_many (pc' := 81) (ls' := [.ref 33, .int x1, .int x2]) (st' := [.int 0]) (mem' := pm_up mem 33 7 x1) hS hC 4 rfl ?_
      exact ex_ret (v := (some (.int 0))) hS hC rfl rfl rfl k
  · replace k := k.1 (zb1 h)
    refine ex_many (pc' := 50) (ls' := [.ref 33, .int x1, .int x2]) (st' := [.ref 33, .int (10 * x2)]) (mem' := mem) hS hC 4 rfl ?_
    refine ex_call (y' := m_X10_here) (rest := [.int (10 * x2)]) (ent := [.ref 33]) hS hC rfl rfl rfl rfl rfl rfl ?_
    exact k

set_option maxRecDepth 20000 in
theorem bk_X10_readsPart_86 {ro : pm_RO} {Q : Option Value → pm_M → Prop} {mem : pm_M} {x1 x2 s0 : Int32} (k : (s0 = 119 → (pm_inb (mem 33 8) 8 = true) ∧ (pm_Ex ro m_X10_here 0 [.ref 33] [] (pm_up mem 39 ((mem 33 8).toNatClampNeg) x2) (fun v m => pm_Ex ro m_X10_readsPart 121 [.ref 33, .int x1, .int x2] (v.toList ++ [.int (mem 33 10), .ref 33]) m Q))) ∧ (¬ (s0 = 119) → pm_Ex ro m_X10_here 0 [.ref 33] [] mem (fun v m => pm_Ex ro m_X10_readsPart 95 [.ref 33, .int x1, .int x2] (v.toList ++ []) m Q))) : pm_Ex ro m_X10_readsPart 86 [.ref 33, .int x1, .int x2] [.int s0] mem Q := by
  have hS : pm_sig[m_X10_readsPart]? = some _ := rfl
  have hC : pm_cod[m_X10_readsPart]? = some _ := rfl
  refine ex_many (pc' := 88) (ls' := [.ref 33, .int x1, .int x2]) (st' := [.int 119, .int s0]) (mem' := mem) hS hC 1 rfl ?_
  refine ex_br (P := s0 = 119) (a := 102) (b := 91) (ls' := [.ref 33, .int x1, .int x2]) (st' := []) (mem' := mem) hS hC rfl (fun h => ?_) (fun h => ?_)
  · replace k := k.1 (h)
    refine ex_many (pc' := 111) (ls' := [.ref 33, .int x1, .int x2]) (st' := [.int x2, .int (mem 33 8), .ref 39]) (mem' := mem) hS hC 5 rfl ?_
    refine ex_grd (b := pm_inb (mem 33 8) 8) (pc' := 112) (ls' := [.ref 33, .int x1, .int x2]) (st' := []) (mem' := pm_up mem 39 ((mem 33 8).toNatClampNeg) x2) hS hC rfl k.1 ?_
    replace k := k.2
    refine ex_many (pc' := 118) (ls' := [.ref 33, .int x1, .int x2]) (st' := [.ref 33, .int (mem 33 10), .ref 33]) (mem' := pm_up mem 39 ((mem 33 8).toNatClampNeg) x2) hS hC 4 rfl ?_
    refine ex_call (y' := m_X10_here) (rest := [.int (mem 33 10), .ref 33]) (ent := [.ref 33]) hS hC rfl rfl rfl rfl rfl rfl ?_
    exact k
  · replace k := k.2 (h)
    refine ex_many (pc' := 92) (ls' := [.ref 33, .int x1, .int x2]) (st' := [.ref 33]) (mem' := mem) hS hC 1 rfl ?_
    refine ex_call (y' := m_X10_here) (rest := []) (ent := [.ref 33]) hS hC rfl rfl rfl rfl rfl rfl ?_
    exact k

set_option maxRecDepth 20000 in
theorem bk_X10_readsPart_53 {ro : pm_RO} {Q : Option Value → pm_M → Prop} {mem : pm_M} {x1 x2 s0 s1 : Int32} (k : pm_Ex ro m_X10_readsPart 18 [.ref 33, .int x1, .int ((s1 + s0) - 48)] [] (pm_up mem 33 7 ((mem 33 7) + 1)) Q) : pm_Ex ro m_X10_readsPart 53 [.ref 33, .int x1, .int x2] [.int s0, .int s1] mem Q := by
  have hS : pm_sig[m_X10_readsPart]? = some _ := rfl
  have hC : pm_cod[m_X10_readsPart]? = some _ := rfl
  refine ex_many (pc' := 18) (ls' := [.ref 33, .int x1, .int ((s1 + s0) - 48)]) (st' := []) (mem' := pm_up mem 33 7 ((mem 33 7) + 1)) hS hC 11 rfl ?_
  exact k

set_option maxRecDepth 20000 in
theorem bk_X10_readsPart_95 {ro : pm_RO} {Q : Option Value → pm_M → Prop} {mem : pm_M} {x1 x2 s0 : Int32} (k : (s0 = 116 → (pm_inb (mem 33 8) 8 = true) ∧ (pm_Ex ro m_X10_here 0 [.ref 33] [] (pm_up mem 39 ((mem 33 8).toNatClampNeg) x2) (fun v m => pm_Ex ro m_X10_readsPart 121 [.ref 33, .int x1, .int x2] (v.toList ++ [.int (mem 33 10), .ref 33]) m Q))) ∧ (¬ (s0 = 116) → Q (some (.int 0)) mem)) : pm_Ex ro m_X10_readsPart 95 [.ref 33, .int x1, .int x2] [.int s0] mem Q := by
  have hS : pm_sig[m_X10_readsPart]? = some _ := rfl
  have hC : pm_cod[m_X10_readsPart]? = some _ := rfl
  refine ex_many (pc' := 97) (ls' := [.ref 33, .int x1, .int x2]) (st' := [.int 116, .int s0]) (mem' := mem) hS hC 1 rfl ?_
  refine ex_br (P := s0 = 116) (a := 102) (b := 100) (ls' := [.ref 33, .int x1, .int x2]) (st' := []) (mem' := mem) hS hC rfl (fun h => ?_) (fun h => ?_)
  · replace k := k.1 (h)
    refine ex_many (pc' := 111) (ls' := [.ref 33, .int x1, .int x2]) (st' := [.int x2, .int (mem 33 8), .ref 39]) (mem' := mem) hS hC 5 rfl ?_
    refine ex_grd (b := pm_inb (mem 33 8) 8) (pc' := 112) (ls' := [.ref 33, .int x1, .int x2]) (st' := []) (mem' := pm_up mem 39 ((mem 33 8).toNatClampNeg) x2) hS hC rfl k.1 ?_
    replace k := k.2
    refine ex_many (pc' := 118) (ls' := [.ref 33, .int x1, .int x2]) (st' := [.ref 33, .int (mem 33 10), .ref 33]) (mem' := pm_up mem 39 ((mem 33 8).toNatClampNeg) x2) hS hC 4 rfl ?_
    refine ex_call (y' := m_X10_here) (rest := [.int (mem 33 10), .ref 33]) (ent := [.ref 33]) hS hC rfl rfl rfl rfl rfl rfl ?_
    exact k
  · replace k := k.2 (h)
    refine ex_many (pc' := 101) (ls' := [.ref 33, .int x1, .int x2]) (st' := [.int 0]) (mem' := mem) hS hC 1 rfl ?_
    exact ex_ret (v := (some (.int 0))) hS hC rfl rfl rfl k

set_option maxRecDepth 20000 in
theorem bk_X10_readsPart_121 {ro : pm_RO} {Q : Option Value → pm_M → Prop} {mem : pm_M} {x1 x2 s0 s1 : Int32} (k : Q (some (.int 1)) (pm_up (pm_up (pm_up mem 33 10 (s1 ||| (if ¬ s0 = 119 then 0 else (1 : Int32) <<< ((mem 33 8) &&& 31) : Int32))) 33 7 (((pm_up mem 33 10 (s1 ||| (if ¬ s0 = 119 then 0 else (1 : Int32) <<< ((mem 33 8) &&& 31) : Int32))) 33 7) + 1)) 33 8 (((pm_up (pm_up mem 33 10 (s1 ||| (if ¬ s0 = 119 then 0 else (1 : Int32) <<< ((mem 33 8) &&& 31) : Int32))) 33 7 (((pm_up mem 33 10 (s1 ||| (if ¬ s0 = 119 then 0 else (1 : Int32) <<< ((mem 33 8) &&& 31) : Int32))) 33 7) + 1)) 33 8) + 1))) : pm_Ex ro m_X10_readsPart 121 [.ref 33, .int x1, .int x2] [.int s0, .int s1, .ref 33] mem Q := by
  have hS : pm_sig[m_X10_readsPart]? = some _ := rfl
  have hC : pm_cod[m_X10_readsPart]? = some _ := rfl
  refine ex_many (pc' := 123) (ls' := [.ref 33, .int x1, .int x2]) (st' := [.int 119, .int s0, .int s1, .ref 33]) (mem' := mem) hS hC 1 rfl ?_
  have kp7 : pm_Ex ro m_X10_readsPart 136 [.ref 33, .int x1, .int x2] [.int (if ¬ s0 = 119 then 0 else (1 : Int32) <<< ((mem 33 8) &&& 31) : Int32), .int s1, .ref 33] mem Q := by
    refine ex_many (pc' := 161) (ls' := [.ref 33, .int x1, .int x2]) (st' := [.int 1]) (mem' := pm_up (pm_up (pm_up mem 33 10 (s1 ||| (if ¬ s0 = 119 then 0 else (1 : Int32) <<< ((mem 33 8) &&& 31) : Int32))) 33 7 (((pm_up mem 33 10 (s1 ||| (if ¬ s0 = 119 then 0 else (1 : Int32) <<< ((mem 33 8) &&& 31) : Int32))) 33 7) + 1)) 33 8 (((pm_up (pm_up mem 33 10 (s1 ||| (if ¬ s0 = 119 then 0 else (1 : Int32) <<< ((mem 33 8) &&& 31) : Int32))) 33 7 (((pm_up mem 33 10 (s1 ||| (if ¬ s0 = 119 then 0 else (1 : Int32) <<< ((mem 33 8) &&& 31) : Int32))) 33 7) + 1)) 33 8) + 1)) hS hC 15 rfl ?_
    exact ex_ret (v := (some (.int 1))) hS hC rfl rfl rfl k
  refine ex_br (P := ¬ s0 = 119) (a := 135) (b := 126) (ls' := [.ref 33, .int x1, .int x2]) (st' := [.int s1, .ref 33]) (mem' := mem) hS hC rfl (fun h => ?_) (fun h => ?_)
  · have kp7a : pm_Ex ro m_X10_readsPart 136 [.ref 33, .int x1, .int x2] [.int 0, .int s1, .ref 33] mem Q := pm_phi1 (f := fun z0 => pm_Ex ro m_X10_readsPart 136 [.ref 33, .int x1, .int x2] [.int z0, .int s1, .ref 33] mem Q) (if_pos (h)) kp7
    refine ex_many (pc' := 136) (ls' := [.ref 33, .int x1, .int x2]) (st' := [.int 0, .int s1, .ref 33]) (mem' := mem) hS hC 1 rfl ?_
    exact kp7a
  · have kp7b : pm_Ex ro m_X10_readsPart 136 [.ref 33, .int x1, .int x2] [.int ((1 : Int32) <<< ((mem 33 8) &&& 31)), .int s1, .ref 33] mem Q := pm_phi1 (f := fun z0 => pm_Ex ro m_X10_readsPart 136 [.ref 33, .int x1, .int x2] [.int z0, .int s1, .ref 33] mem Q) (if_neg (h)) kp7
    refine ex_many (pc' := 136) (ls' := [.ref 33, .int x1, .int x2]) (st' := [.int ((1 : Int32) <<< ((mem 33 8) &&& 31)), .int s1, .ref 33]) (mem' := mem) hS hC 5 rfl ?_
    exact kp7b

set_option maxRecDepth 20000 in
theorem bk_X10_reads_0 {ro : pm_RO} {Q : Option Value → pm_M → Prop} {mem : pm_M} (k : pm_Ex ro m_X10_reads 28 [.ref 33, .int (zb (¬ (((pm_up (pm_up (pm_up mem 33 7 0) 33 8 0) 33 10 0) 33 6) ≤ 0)))] [] (pm_up (pm_up (pm_up mem 33 7 0) 33 8 0) 33 10 0) Q) : pm_Ex ro m_X10_reads 0 [.ref 33, .null] [] mem Q := by
  have hS : pm_sig[m_X10_reads]? = some _ := rfl
  have hC : pm_cod[m_X10_reads]? = some _ := rfl
  refine ex_many (pc' := 19) (ls' := [.ref 33, .null]) (st' := [.int ((pm_up (pm_up (pm_up mem 33 7 0) 33 8 0) 33 10 0) 33 6)]) (mem' := pm_up (pm_up (pm_up mem 33 7 0) 33 8 0) 33 10 0) hS hC 11 rfl ?_
  have kp8 : pm_Ex ro m_X10_reads 27 [.ref 33, .null] [.int (zb (¬ (((pm_up (pm_up (pm_up mem 33 7 0) 33 8 0) 33 10 0) 33 6) ≤ 0)))] (pm_up (pm_up (pm_up mem 33 7 0) 33 8 0) 33 10 0) Q := by
    refine ex_many (pc' := 28) (ls' := [.ref 33, .int (zb (¬ (((pm_up (pm_up (pm_up mem 33 7 0) 33 8 0) 33 10 0) 33 6) ≤ 0)))]) (st' := []) (mem' := pm_up (pm_up (pm_up mem 33 7 0) 33 8 0) 33 10 0) hS hC 1 rfl ?_
    exact k
  refine ex_br (P := ((pm_up (pm_up (pm_up mem 33 7 0) 33 8 0) 33 10 0) 33 6) ≤ 0) (a := 26) (b := 22) (ls' := [.ref 33, .null]) (st' := []) (mem' := pm_up (pm_up (pm_up mem 33 7 0) 33 8 0) 33 10 0) hS hC rfl (fun h => ?_) (fun h => ?_)
  · have kp8a : pm_Ex ro m_X10_reads 27 [.ref 33, .null] [.int 0] (pm_up (pm_up (pm_up mem 33 7 0) 33 8 0) 33 10 0) Q := pm_phi1 (f := fun z0 => pm_Ex ro m_X10_reads 27 [.ref 33, .null] [.int z0] (pm_up (pm_up (pm_up mem 33 7 0) 33 8 0) 33 10 0) Q) (zb_npos (h)) kp8
    refine ex_many (pc' := 27) (ls' := [.ref 33, .null]) (st' := [.int 0]) (mem' := pm_up (pm_up (pm_up mem 33 7 0) 33 8 0) 33 10 0) hS hC 1 rfl ?_
    exact kp8a
  · have kp8b : pm_Ex ro m_X10_reads 27 [.ref 33, .null] [.int 1] (pm_up (pm_up (pm_up mem 33 7 0) 33 8 0) 33 10 0) Q := pm_phi1 (f := fun z0 => pm_Ex ro m_X10_reads 27 [.ref 33, .null] [.int z0] (pm_up (pm_up (pm_up mem 33 7 0) 33 8 0) 33 10 0) Q) (zb_nneg (h)) kp8
    refine ex_many (pc' := 27) (ls' := [.ref 33, .null]) (st' := [.int 1]) (mem' := pm_up (pm_up (pm_up mem 33 7 0) 33 8 0) 33 10 0) hS hC 2 rfl ?_
    exact kp8b

set_option maxRecDepth 20000 in
theorem bk_X10_reads_28 {ro : pm_RO} {Q : Option Value → pm_M → Prop} {mem : pm_M} {x1 : Int32} (k : (x1 = 0 → Q (some (.int (-1))) mem) ∧ (¬ (x1 = 0) → pm_Ex ro m_X10_readsPart 0 [.ref 33, .null, .null] [] mem (fun v m => pm_Ex ro m_X10_reads 36 [.ref 33, .int x1] (v.toList ++ []) m Q))) : pm_Ex ro m_X10_reads 28 [.ref 33, .int x1] [] mem Q := by
  have hS : pm_sig[m_X10_reads]? = some _ := rfl
  have hC : pm_cod[m_X10_reads]? = some _ := rfl
  refine ex_many (pc' := 29) (ls' := [.ref 33, .int x1]) (st' := [.int x1]) (mem' := mem) hS hC 1 rfl ?_
  refine ex_br (P := x1 = 0) (a := 100) (b := 32) (ls' := [.ref 33, .int x1]) (st' := []) (mem' := mem) hS hC rfl (fun h => ?_) (fun h => ?_)
  · replace k := k.1 (h)
    refine ex_many (pc' := 101) (ls' := [.ref 33, .int x1]) (st' := [.int (-1)]) (mem' := mem) hS hC 1 rfl ?_
    exact ex_ret (v := (some (.int (-1)))) hS hC rfl rfl rfl k
  · replace k := k.2 (h)
    refine ex_many (pc' := 33) (ls' := [.ref 33, .int x1]) (st' := [.ref 33]) (mem' := mem) hS hC 1 rfl ?_
    refine ex_call (y' := m_X10_readsPart) (rest := []) (ent := [.ref 33, .null, .null]) hS hC rfl rfl rfl rfl rfl rfl ?_
    exact k

set_option maxRecDepth 20000 in
theorem bk_X10_reads_36 {ro : pm_RO} {Q : Option Value → pm_M → Prop} {mem : pm_M} {x1 s0 : Int32} (k : (¬ s0 = 0 → (¬ ((mem 33 6) ≤ (mem 33 7)) → pm_Ex ro m_X10_here 0 [.ref 33] [] mem (fun v m => pm_Ex ro m_X10_reads 69 [.ref 33, .int (zb (¬ ((mem 33 6) ≤ (mem 33 7))))] (v.toList ++ []) m Q)) ∧ (¬ (¬ ((mem 33 6) ≤ (mem 33 7))) → pm_Ex ro m_X10_reads 28 [.ref 33, .int (zb (¬ ((mem 33 6) ≤ (mem 33 7))))] [] (pm_up mem 33 7 ((mem 33 7) + (zb (¬ ((mem 33 6) ≤ (mem 33 7)))))) Q)) ∧ (¬ (¬ s0 = 0) → Q (some (.int ((pm_up (pm_up mem 33 8 0) 33 10 0) 33 7))) (pm_up (pm_up mem 33 8 0) 33 10 0))) : pm_Ex ro m_X10_reads 36 [.ref 33, .int x1] [.int s0] mem Q := by
  have hS : pm_sig[m_X10_reads]? = some _ := rfl
  have hC : pm_cod[m_X10_reads]? = some _ := rfl
  refine ex_br (P := ¬ s0 = 0) (a := 44) (b := 39) (ls' := [.ref 33, .int x1]) (st' := []) (mem' := mem) hS hC rfl (fun h => ?_) (fun h => ?_)
  · replace k := k.1 (h)
    refine ex_many (pc' := 52) (ls' := [.ref 33, .int x1]) (st' := [.int (mem 33 6), .int (mem 33 7)]) (mem' := mem) hS hC 4 rfl ?_
    have kp10 : pm_Ex ro m_X10_reads 60 [.ref 33, .int x1] [.int (zb (¬ ((mem 33 6) ≤ (mem 33 7))))] mem Q := by
      refine ex_many (pc' := 62) (ls' := [.ref 33, .int (zb (¬ ((mem 33 6) ≤ (mem 33 7))))]) (st' := [.int (zb (¬ ((mem 33 6) ≤ (mem 33 7))))]) (mem' := mem) hS hC 2 rfl ?_
      refine ex_br (P := (zb (¬ ((mem 33 6) ≤ (mem 33 7)))) = 0) (a := 79) (b := 65) (ls' := [.ref 33, .int (zb (¬ ((mem 33 6) ≤ (mem 33 7))))]) (st' := []) (mem' := mem) hS hC rfl (fun h => ?_) (fun h => ?_)
      · replace k := k.2 (zb0 h)
        refine ex_many (pc' := 85) (ls' := [.ref 33, .int (zb (¬ ((mem 33 6) ≤ (mem 33 7))))]) (st' := [.int (zb (¬ ((mem 33 6) ≤ (mem 33 7)))), .int (mem 33 7), .ref 33]) (mem' := mem) hS hC 4 rfl ?_
        have kp9 : pm_Ex ro m_X10_reads 93 [.ref 33, .int (zb (¬ ((mem 33 6) ≤ (mem 33 7))))] [.int (zb (¬ ((mem 33 6) ≤ (mem 33 7)))), .int (mem 33 7), .ref 33] mem Q := by
          refine ex_many (pc' := 28) (ls' := [.ref 33, .int (zb (¬ ((mem 33 6) ≤ (mem 33 7))))]) (st' := []) (mem' := pm_up mem 33 7 ((mem 33 7) + (zb (¬ ((mem 33 6) ≤ (mem 33 7)))))) hS hC 3 rfl ?_
          exact k
        refine ex_br (P := (zb (¬ ((mem 33 6) ≤ (mem 33 7)))) = 0) (a := 92) (b := 88) (ls' := [.ref 33, .int (zb (¬ ((mem 33 6) ≤ (mem 33 7))))]) (st' := [.int (mem 33 7), .ref 33]) (mem' := mem) hS hC rfl (fun h => ?_) (fun h => ?_)
        · have kp9a : pm_Ex ro m_X10_reads 93 [.ref 33, .int (zb (¬ ((mem 33 6) ≤ (mem 33 7))))] [.int 0, .int (mem 33 7), .ref 33] mem Q := pm_phi1 (f := fun z0 => pm_Ex ro m_X10_reads 93 [.ref 33, .int (zb (¬ ((mem 33 6) ≤ (mem 33 7))))] [.int z0, .int (mem 33 7), .ref 33] mem Q) (zb_neg (zb0 h)) kp9
          refine ex_many (pc' := 93) (ls' := [.ref 33, .int (zb (¬ ((mem 33 6) ≤ (mem 33 7))))]) (st' := [.int 0, .int (mem 33 7), .ref 33]) (mem' := mem) hS hC 1 rfl ?_
          exact kp9a
        · have kp9b : pm_Ex ro m_X10_reads 93 [.ref 33, .int (zb (¬ ((mem 33 6) ≤ (mem 33 7))))] [.int 1, .int (mem 33 7), .ref 33] mem Q := pm_phi1 (f := fun z0 => pm_Ex ro m_X10_reads 93 [.ref 33, .int (zb (¬ ((mem 33 6) ≤ (mem 33 7))))] [.int z0, .int (mem 33 7), .ref 33] mem Q) (zb_pos (zb1 h)) kp9
          refine ex_many (pc' := 93) (ls' := [.ref 33, .int (zb (¬ ((mem 33 6) ≤ (mem 33 7))))]) (st' := [.int 1, .int (mem 33 7), .ref 33]) (mem' := mem) hS hC 2 rfl ?_
          exact kp9b
      · replace k := k.1 (zb1 h)
        refine ex_many (pc' := 66) (ls' := [.ref 33, .int (zb (¬ ((mem 33 6) ≤ (mem 33 7))))]) (st' := [.ref 33]) (mem' := mem) hS hC 1 rfl ?_
        refine ex_call (y' := m_X10_here) (rest := []) (ent := [.ref 33]) hS hC rfl rfl rfl rfl rfl rfl ?_
        exact k
    refine ex_br (P := (mem 33 6) ≤ (mem 33 7)) (a := 59) (b := 55) (ls' := [.ref 33, .int x1]) (st' := []) (mem' := mem) hS hC rfl (fun h => ?_) (fun h => ?_)
    · have kp10a : pm_Ex ro m_X10_reads 60 [.ref 33, .int x1] [.int 0] mem Q := pm_phi1 (f := fun z0 => pm_Ex ro m_X10_reads 60 [.ref 33, .int x1] [.int z0] mem Q) (zb_npos (h)) kp10
      refine ex_many (pc' := 60) (ls' := [.ref 33, .int x1]) (st' := [.int 0]) (mem' := mem) hS hC 1 rfl ?_
      exact kp10a
    · have kp10b : pm_Ex ro m_X10_reads 60 [.ref 33, .int x1] [.int 1] mem Q := pm_phi1 (f := fun z0 => pm_Ex ro m_X10_reads 60 [.ref 33, .int x1] [.int z0] mem Q) (zb_nneg (h)) kp10
      refine ex_many (pc' := 60) (ls' := [.ref 33, .int x1]) (st' := [.int 1]) (mem' := mem) hS hC 2 rfl ?_
      exact kp10b
  · replace k := k.2 (h)
    refine ex_many (pc' := 40) (ls' := [.ref 33, .int x1]) (st' := [.ref 33]) (mem' := mem) hS hC 1 rfl ?_
    refine ex_call (y' := m_X10_none) (rest := []) (ent := [.ref 33]) hS hC rfl rfl rfl rfl rfl rfl ?_
    refine bk_X10_none_0 ?_
    show pm_Ex ro m_X10_reads 43 [.ref 33, .int x1] [.int ((pm_up (pm_up mem 33 8 0) 33 10 0) 33 7)] (pm_up (pm_up mem 33 8 0) 33 10 0) Q
    exact ex_ret (v := (some (.int ((pm_up (pm_up mem 33 8 0) 33 10 0) 33 7)))) hS hC rfl rfl rfl k

set_option maxRecDepth 20000 in
theorem bk_X10_reads_69 {ro : pm_RO} {Q : Option Value → pm_M → Prop} {mem : pm_M} {x1 s0 : Int32} (k : (s0 = 59 → pm_Ex ro m_X10_reads 28 [.ref 33, .int x1] [] (pm_up mem 33 7 ((mem 33 7) + (zb (¬ (x1 = 0))))) Q) ∧ (¬ (s0 = 59) → Q (some (.int ((pm_up (pm_up mem 33 8 0) 33 10 0) 33 7))) (pm_up (pm_up mem 33 8 0) 33 10 0))) : pm_Ex ro m_X10_reads 69 [.ref 33, .int x1] [.int s0] mem Q := by
  have hS : pm_sig[m_X10_reads]? = some _ := rfl
  have hC : pm_cod[m_X10_reads]? = some _ := rfl
  refine ex_many (pc' := 71) (ls' := [.ref 33, .int x1]) (st' := [.int 59, .int s0]) (mem' := mem) hS hC 1 rfl ?_
  refine ex_br (P := s0 = 59) (a := 79) (b := 74) (ls' := [.ref 33, .int x1]) (st' := []) (mem' := mem) hS hC rfl (fun h => ?_) (fun h => ?_)
  · replace k := k.1 (h)
    refine ex_many (pc' := 85) (ls' := [.ref 33, .int x1]) (st' := [.int x1, .int (mem 33 7), .ref 33]) (mem' := mem) hS hC 4 rfl ?_
    have kp11 : pm_Ex ro m_X10_reads 93 [.ref 33, .int x1] [.int (zb (¬ (x1 = 0))), .int (mem 33 7), .ref 33] mem Q := by
      refine ex_many (pc' := 28) (ls' := [.ref 33, .int x1]) (st' := []) (mem' := pm_up mem 33 7 ((mem 33 7) + (zb (¬ (x1 = 0))))) hS hC 3 rfl ?_
      exact k
    refine ex_br (P := x1 = 0) (a := 92) (b := 88) (ls' := [.ref 33, .int x1]) (st' := [.int (mem 33 7), .ref 33]) (mem' := mem) hS hC rfl (fun h => ?_) (fun h => ?_)
    · have kp11a : pm_Ex ro m_X10_reads 93 [.ref 33, .int x1] [.int 0, .int (mem 33 7), .ref 33] mem Q := pm_phi1 (f := fun z0 => pm_Ex ro m_X10_reads 93 [.ref 33, .int x1] [.int z0, .int (mem 33 7), .ref 33] mem Q) (zb_npos (h)) kp11
      refine ex_many (pc' := 93) (ls' := [.ref 33, .int x1]) (st' := [.int 0, .int (mem 33 7), .ref 33]) (mem' := mem) hS hC 1 rfl ?_
      exact kp11a
    · have kp11b : pm_Ex ro m_X10_reads 93 [.ref 33, .int x1] [.int 1, .int (mem 33 7), .ref 33] mem Q := pm_phi1 (f := fun z0 => pm_Ex ro m_X10_reads 93 [.ref 33, .int x1] [.int z0, .int (mem 33 7), .ref 33] mem Q) (zb_nneg (h)) kp11
      refine ex_many (pc' := 93) (ls' := [.ref 33, .int x1]) (st' := [.int 1, .int (mem 33 7), .ref 33]) (mem' := mem) hS hC 2 rfl ?_
      exact kp11b
  · replace k := k.2 (h)
    refine ex_many (pc' := 75) (ls' := [.ref 33, .int x1]) (st' := [.ref 33]) (mem' := mem) hS hC 1 rfl ?_
    refine ex_call (y' := m_X10_none) (rest := []) (ent := [.ref 33]) hS hC rfl rfl rfl rfl rfl rfl ?_
    refine bk_X10_none_0 ?_
    show pm_Ex ro m_X10_reads 78 [.ref 33, .int x1] [.int ((pm_up (pm_up mem 33 8 0) 33 10 0) 33 7)] (pm_up (pm_up mem 33 8 0) 33 10 0) Q
    exact ex_ret (v := (some (.int ((pm_up (pm_up mem 33 8 0) 33 10 0) 33 7)))) hS hC rfl rfl rfl k

set_option maxRecDepth 20000 in
theorem bk_X10_fault_0 {ro : pm_RO} {Q : Option Value → pm_M → Prop} {mem : pm_M} (k : pm_Ex ro m_X10_reads 0 [.ref 33, .null] [] mem (fun v m => pm_Ex ro m_X10_fault 4 [.ref 33] (v.toList ++ []) m Q)) : pm_Ex ro m_X10_fault 0 [.ref 33] [] mem Q := by
  have hS : pm_sig[m_X10_fault]? = some _ := rfl
  have hC : pm_cod[m_X10_fault]? = some _ := rfl
  refine ex_many (pc' := 1) (ls' := [.ref 33]) (st' := [.ref 33]) (mem' := mem) hS hC 1 rfl ?_
  refine ex_call (y' := m_X10_reads) (rest := []) (ent := [.ref 33, .null]) hS hC rfl rfl rfl rfl rfl rfl ?_
  exact k

set_option maxRecDepth 20000 in
theorem bk_X10_fault_4 {ro : pm_RO} {Q : Option Value → pm_M → Prop} {mem : pm_M} {s0 : Int32} (k : Q (some (.int s0)) mem) : pm_Ex ro m_X10_fault 4 [.ref 33] [.int s0] mem Q := by
  have hS : pm_sig[m_X10_fault]? = some _ := rfl
  have hC : pm_cod[m_X10_fault]? = some _ := rfl
  exact ex_ret (v := (some (.int s0))) hS hC rfl rfl rfl k

set_option maxRecDepth 20000 in
theorem bk_X10_isGood_0 {ro : pm_RO} {Q : Option Value → pm_M → Prop} {mem : pm_M} {a1 : Int32} (k : pm_Ex ro m_X10_reads 0 [.ref 33, .null] [] mem (fun v m => pm_Ex ro m_X10_isGood 4 [.ref 33, .int a1] (v.toList ++ []) m Q)) : pm_Ex ro m_X10_isGood 0 [.ref 33, .int a1] [] mem Q := by
  have hS : pm_sig[m_X10_isGood]? = some _ := rfl
  have hC : pm_cod[m_X10_isGood]? = some _ := rfl
  refine ex_many (pc' := 1) (ls' := [.ref 33, .int a1]) (st' := [.ref 33]) (mem' := mem) hS hC 1 rfl ?_
  refine ex_call (y' := m_X10_reads) (rest := []) (ent := [.ref 33, .null]) hS hC rfl rfl rfl rfl rfl rfl ?_
  exact k

set_option maxRecDepth 20000 in
theorem bk_X10_isGood_4 {ro : pm_RO} {Q : Option Value → pm_M → Prop} {mem : pm_M} {x1 s0 : Int32} (k : Q (some (.int (zb (0 ≤ x1 ∧ x1 ≤ ((mem 33 8) - 1))))) mem) : pm_Ex ro m_X10_isGood 4 [.ref 33, .int x1] [.int s0] mem Q := by
  have hS : pm_sig[m_X10_isGood]? = some _ := rfl
  have hC : pm_cod[m_X10_isGood]? = some _ := rfl
  refine ex_many (pc' := 15) (ls' := [.ref 33, .int x1]) (st' := [.long (((mem 33 8) - 1).toInt64), .long 0, .long x1.toInt64]) (mem' := mem) hS hC 9 rfl ?_
  refine ex_call (y' := m_X10_in) (rest := []) (ent := [.long x1.toInt64, .null, .long 0, .null, .long (((mem 33 8) - 1).toInt64), .null]) hS hC rfl rfl rfl rfl rfl rfl ?_
  refine sp_in32 (v := x1) (lo := 0) (hi := ((mem 33 8) - 1)) (by decide) rfl ?_
  show pm_Ex ro m_X10_isGood 18 [.ref 33, .int x1] [.int (zb (0 ≤ x1 ∧ x1 ≤ ((mem 33 8) - 1)))] mem Q
  exact ex_retz hS hC rfl rfl rfl (zb_01 _) k

set_option maxRecDepth 20000 in
theorem bk_X10_goodOf_0 {ro : pm_RO} {Q : Option Value → pm_M → Prop} {mem : pm_M} {a1 a2 : Int32} (k : (¬ a2 = 0 → (¬ a2 = 1 → (pm_inb a1 8 = true) ∧ (Q (some (.int (mem 40 a1.toNatClampNeg))) mem)) ∧ (¬ (¬ a2 = 1) → Q (some (.int (((mem 33 10) >>> (a1 &&& 31)) &&& 1))) mem)) ∧ (¬ (¬ a2 = 0) → (pm_inb a1 8 = true) ∧ (Q (some (.int (mem 39 a1.toNatClampNeg))) mem))) : pm_Ex ro m_X10_goodOf 0 [.ref 33, .int a1, .int a2] [] mem Q := by
  have hS : pm_sig[m_X10_goodOf]? = some _ := rfl
  have hC : pm_cod[m_X10_goodOf]? = some _ := rfl
  refine ex_many (pc' := 1) (ls' := [.ref 33, .int a1, .int a2]) (st' := [.int a2]) (mem' := mem) hS hC 1 rfl ?_
  refine ex_br (P := ¬ a2 = 0) (a := 13) (b := 4) (ls' := [.ref 33, .int a1, .int a2]) (st' := []) (mem' := mem) hS hC rfl (fun h => ?_) (fun h => ?_)
  · replace k := k.1 (h)
    refine ex_many (pc' := 15) (ls' := [.ref 33, .int a1, .int a2]) (st' := [.int 1, .int a2]) (mem' := mem) hS hC 2 rfl ?_
    refine ex_br (P := ¬ a2 = 1) (a := 29) (b := 18) (ls' := [.ref 33, .int a1, .int a2]) (st' := []) (mem' := mem) hS hC rfl (fun h => ?_) (fun h => ?_)
    · replace k := k.1 (h)
      refine ex_many (pc' := 34) (ls' := [.ref 33, .int a1, .int a2]) (st' := [.int a1, .ref 40]) (mem' := mem) hS hC 3 rfl ?_
      refine ex_grd (b := pm_inb a1 8) (pc' := 35) (ls' := [.ref 33, .int a1, .int a2]) (st' := [.int (mem 40 a1.toNatClampNeg)]) (mem' := mem) hS hC rfl k.1 ?_
      replace k := k.2
      exact ex_ret (v := (some (.int (mem 40 a1.toNatClampNeg)))) hS hC rfl rfl rfl k
    · replace k := k.2 (h)
      refine ex_many (pc' := 35) (ls' := [.ref 33, .int a1, .int a2]) (st' := [.int (((mem 33 10) >>> (a1 &&& 31)) &&& 1)]) (mem' := mem) hS hC 7 rfl ?_
      exact ex_ret (v := (some (.int (((mem 33 10) >>> (a1 &&& 31)) &&& 1)))) hS hC rfl rfl rfl k
  · replace k := k.2 (h)
    refine ex_many (pc' := 9) (ls' := [.ref 33, .int a1, .int a2]) (st' := [.int a1, .ref 39]) (mem' := mem) hS hC 3 rfl ?_
    refine ex_grd (b := pm_inb a1 8) (pc' := 10) (ls' := [.ref 33, .int a1, .int a2]) (st' := [.int (mem 39 a1.toNatClampNeg)]) (mem' := mem) hS hC rfl k.1 ?_
    replace k := k.2
    refine ex_many (pc' := 35) (ls' := [.ref 33, .int a1, .int a2]) (st' := [.int (mem 39 a1.toNatClampNeg)]) (mem' := mem) hS hC 1 rfl ?_
    exact ex_ret (v := (some (.int (mem 39 a1.toNatClampNeg)))) hS hC rfl rfl rfl k

set_option maxRecDepth 20000 in
theorem bk_X10_good_0 {ro : pm_RO} {Q : Option Value → pm_M → Prop} {mem : pm_M} {a1 a2 : Int32} (k : pm_Ex ro m_X10_isGood 0 [.ref 33, .int a1] [] mem (fun v m => pm_Ex ro m_X10_good 5 [.ref 33, .int a1, .int a2] (v.toList ++ []) m Q)) : pm_Ex ro m_X10_good 0 [.ref 33, .int a1, .int a2] [] mem Q := by
  have hS : pm_sig[m_X10_good]? = some _ := rfl
  have hC : pm_cod[m_X10_good]? = some _ := rfl
  refine ex_many (pc' := 2) (ls' := [.ref 33, .int a1, .int a2]) (st' := [.int a1, .ref 33]) (mem' := mem) hS hC 2 rfl ?_
  refine ex_call (y' := m_X10_isGood) (rest := []) (ent := [.ref 33, .int a1]) hS hC rfl rfl rfl rfl rfl rfl ?_
  exact k

set_option maxRecDepth 20000 in
theorem bk_X10_good_5 {ro : pm_RO} {Q : Option Value → pm_M → Prop} {mem : pm_M} {x1 x2 s0 : Int32} (k : (s0 = 0 → Q (some (.int (-2))) mem) ∧ (¬ (s0 = 0) → (0 ≤ x2 ∧ x2 ≤ 2 → pm_Ex ro m_X10_goodOf 0 [.ref 33, .int x1, .int x2] [] mem (fun v m => pm_Ex ro m_X10_good 26 [.ref 33, .int x1, .int x2] (v.toList ++ []) m Q)) ∧ (¬ (0 ≤ x2 ∧ x2 ≤ 2) → Q (some (.int (-2))) mem))) : pm_Ex ro m_X10_good 5 [.ref 33, .int x1, .int x2] [.int s0] mem Q := by
  have hS : pm_sig[m_X10_good]? = some _ := rfl
  have hC : pm_cod[m_X10_good]? = some _ := rfl
  refine ex_br (P := s0 = 0) (a := 29) (b := 8) (ls' := [.ref 33, .int x1, .int x2]) (st' := []) (mem' := mem) hS hC rfl (fun h => ?_) (fun h => ?_)
  · replace k := k.1 (h)
    refine ex_many (pc' := 31) (ls' := [.ref 33, .int x1, .int x2]) (st' := [.int (-2)]) (mem' := mem) hS hC 1 rfl ?_
    exact ex_ret (v := (some (.int (-2)))) hS hC rfl rfl rfl k
  · replace k := k.2 (h)
    refine ex_many (pc' := 14) (ls' := [.ref 33, .int x1, .int x2]) (st' := [.long 2, .long 0, .long x2.toInt64]) (mem' := mem) hS hC 4 rfl ?_
    refine ex_call (y' := m_X10_in) (rest := []) (ent := [.long x2.toInt64, .null, .long 0, .null, .long 2, .null]) hS hC rfl rfl rfl rfl rfl rfl ?_
    refine sp_in32 (v := x2) (lo := 0) (hi := 2) (by decide) (by decide) ?_
    show pm_Ex ro m_X10_good 17 [.ref 33, .int x1, .int x2] [.int (zb (0 ≤ x2 ∧ x2 ≤ 2))] mem Q
    refine ex_br (P := (zb (0 ≤ x2 ∧ x2 ≤ 2)) = 0) (a := 29) (b := 20) (ls' := [.ref 33, .int x1, .int x2]) (st' := []) (mem' := mem) hS hC rfl (fun h => ?_) (fun h => ?_)
    · replace k := k.2 (zb0 h)
      refine ex_many (pc' := 31) (ls' := [.ref 33, .int x1, .int x2]) (st' := [.int (-2)]) (mem' := mem) hS hC 1 rfl ?_
      exact ex_ret (v := (some (.int (-2)))) hS hC rfl rfl rfl k
    · replace k := k.1 (zb1 h)
      refine ex_many (pc' := 23) (ls' := [.ref 33, .int x1, .int x2]) (st' := [.int x2, .int x1, .ref 33]) (mem' := mem) hS hC 3 rfl ?_
      refine ex_call (y' := m_X10_goodOf) (rest := []) (ent := [.ref 33, .int x1, .int x2]) hS hC rfl rfl rfl rfl rfl rfl ?_
      exact k

set_option maxRecDepth 20000 in
theorem bk_X10_good_26 {ro : pm_RO} {Q : Option Value → pm_M → Prop} {mem : pm_M} {x1 x2 s0 : Int32} (k : Q (some (.int s0)) mem) : pm_Ex ro m_X10_good 26 [.ref 33, .int x1, .int x2] [.int s0] mem Q := by
  have hS : pm_sig[m_X10_good]? = some _ := rfl
  have hC : pm_cod[m_X10_good]? = some _ := rfl
  refine ex_many (pc' := 31) (ls' := [.ref 33, .int x1, .int x2]) (st' := [.int s0]) (mem' := mem) hS hC 1 rfl ?_
  exact ex_ret (v := (some (.int s0))) hS hC rfl rfl rfl k

set_option maxRecDepth 20000 in
theorem bk_X10_set_0 {ro : pm_RO} {Q : Option Value → pm_M → Prop} {mem : pm_M} {a1 a2 : Int32} (k : (0 ≤ a1 ∧ a1 ≤ 3 → ((if ¬ a1 = 0 then zb (¬ (¬ a1 = 3)) else 2 : Int32) ≤ a2 ∧ a2 ≤ (if ¬ a1 = 0 then (if ¬ a1 = 1 then (if ¬ a1 = 2 then 4 else 99 : Int32) else 1 : Int32) else 36 : Int32) → (pm_inb a1 4 = true) ∧ ((pm_inb a1 4 = true) ∧ (Q (some (.int (mem 41 a1.toNatClampNeg))) (pm_up mem 41 a1.toNatClampNeg a2)))) ∧ (¬ ((if ¬ a1 = 0 then zb (¬ (¬ a1 = 3)) else 2 : Int32) ≤ a2 ∧ a2 ≤ (if ¬ a1 = 0 then (if ¬ a1 = 1 then (if ¬ a1 = 2 then 4 else 99 : Int32) else 1 : Int32) else 36 : Int32)) → Q (some (.int (-2))) mem)) ∧ (¬ (0 ≤ a1 ∧ a1 ≤ 3) → Q (some (.int (-2))) mem)) : pm_Ex ro m_X10_set 0 [.ref 33, .int a1, .int a2, .null, .null, .null] [] mem Q := by
  have hS : pm_sig[m_X10_set]? = some _ := rfl
  have hC : pm_cod[m_X10_set]? = some _ := rfl
  refine ex_many (pc' := 1) (ls' := [.ref 33, .int a1, .int a2, .null, .null, .null]) (st' := [.int a1]) (mem' := mem) hS hC 1 rfl ?_
  have kp19 : pm_Ex ro m_X10_set 18 [.ref 33, .int a1, .int a2, .null, .null, .null] [.int (if ¬ a1 = 0 then zb (¬ (¬ a1 = 3)) else 2 : Int32)] mem Q := by
    refine ex_many (pc' := 20) (ls' := [.ref 33, .int a1, .int a2, .int (if ¬ a1 = 0 then zb (¬ (¬ a1 = 3)) else 2 : Int32), .null, .null]) (st' := [.int a1]) (mem' := mem) hS hC 2 rfl ?_
    have kp18 : pm_Ex ro m_X10_set 48 [.ref 33, .int a1, .int a2, .int (if ¬ a1 = 0 then zb (¬ (¬ a1 = 3)) else 2 : Int32), .null, .null] [.int (if ¬ a1 = 0 then (if ¬ a1 = 1 then (if ¬ a1 = 2 then 4 else 99 : Int32) else 1 : Int32) else 36 : Int32)] mem Q := by
      refine ex_many (pc' := 56) (ls' := [.ref 33, .int a1, .int a2, .int (if ¬ a1 = 0 then zb (¬ (¬ a1 = 3)) else 2 : Int32), .int (if ¬ a1 = 0 then (if ¬ a1 = 1 then (if ¬ a1 = 2 then 4 else 99 : Int32) else 1 : Int32) else 36 : Int32), .null]) (st' := [.long 3, .long 0, .long a1.toInt64]) (mem' := mem) hS hC 5 rfl ?_
      refine ex_call (y' := m_X10_in) (rest := []) (ent := [.long a1.toInt64, .null, .long 0, .null, .long 3, .null]) hS hC rfl rfl rfl rfl rfl rfl ?_
      refine sp_in32 (v := a1) (lo := 0) (hi := 3) (by decide) (by decide) ?_
      show pm_Ex ro m_X10_set 59 [.ref 33, .int a1, .int a2, .int (if ¬ a1 = 0 then zb (¬ (¬ a1 = 3)) else 2 : Int32), .int (if ¬ a1 = 0 then (if ¬ a1 = 1 then (if ¬ a1 = 2 then 4 else 99 : Int32) else 1 : Int32) else 36 : Int32), .null] [.int (zb (0 ≤ a1 ∧ a1 ≤ 3))] mem Q
      refine ex_br (P := (zb (0 ≤ a1 ∧ a1 ≤ 3)) = 0) (a := 75) (b := 62) (ls' := [.ref 33, .int a1, .int a2, .int (if ¬ a1 = 0 then zb (¬ (¬ a1 = 3)) else 2 : Int32), .int (if ¬ a1 = 0 then (if ¬ a1 = 1 then (if ¬ a1 = 2 then 4 else 99 : Int32) else 1 : Int32) else 36 : Int32), .null]) (st' := []) (mem' := mem) hS hC rfl (fun h => ?_) (fun h => ?_)
      · replace k := k.2 (zb0 h)
        refine ex_many (pc' := 77) (ls' := [.ref 33, .int a1, .int a2, .int (if ¬ a1 = 0 then zb (¬ (¬ a1 = 3)) else 2 : Int32), .int (if ¬ a1 = 0 then (if ¬ a1 = 1 then (if ¬ a1 = 2 then 4 else 99 : Int32) else 1 : Int32) else 36 : Int32), .null]) (st' := [.int (-2)]) (mem' := mem) hS hC 1 rfl ?_
        exact ex_ret (v := (some (.int (-2)))) hS hC rfl rfl rfl k
      · replace k := k.1 (zb1 h)
        refine ex_many (pc' := 69) (ls' := [.ref 33, .int a1, .int a2, .int (if ¬ a1 = 0 then zb (¬ (¬ a1 = 3)) else 2 : Int32), .int (if ¬ a1 = 0 then (if ¬ a1 = 1 then (if ¬ a1 = 2 then 4 else 99 : Int32) else 1 : Int32) else 36 : Int32), .null]) (st' := [.long ((if ¬ a1 = 0 then (if ¬ a1 = 1 then (if ¬ a1 = 2 then 4 else 99 : Int32) else 1 : Int32) else 36 : Int32).toInt64), .long ((if ¬ a1 = 0 then zb (¬ (¬ a1 = 3)) else 2 : Int32).toInt64), .long a2.toInt64]) (mem' := mem) hS hC 6 rfl ?_
        refine ex_call (y' := m_X10_in) (rest := []) (ent := [.long a2.toInt64, .null, .long ((if ¬ a1 = 0 then zb (¬ (¬ a1 = 3)) else 2 : Int32).toInt64), .null, .long ((if ¬ a1 = 0 then (if ¬ a1 = 1 then (if ¬ a1 = 2 then 4 else 99 : Int32) else 1 : Int32) else 36 : Int32).toInt64), .null]) hS hC rfl rfl rfl rfl rfl rfl ?_
        refine sp_in32 (v := a2) (lo := (if ¬ a1 = 0 then zb (¬ (¬ a1 = 3)) else 2 : Int32)) (hi := (if ¬ a1 = 0 then (if ¬ a1 = 1 then (if ¬ a1 = 2 then 4 else 99 : Int32) else 1 : Int32) else 36 : Int32)) rfl rfl ?_
        show pm_Ex ro m_X10_set 72 [.ref 33, .int a1, .int a2, .int (if ¬ a1 = 0 then zb (¬ (¬ a1 = 3)) else 2 : Int32), .int (if ¬ a1 = 0 then (if ¬ a1 = 1 then (if ¬ a1 = 2 then 4 else 99 : Int32) else 1 : Int32) else 36 : Int32), .null] [.int (zb ((if ¬ a1 = 0 then zb (¬ (¬ a1 = 3)) else 2 : Int32) ≤ a2 ∧ a2 ≤ (if ¬ a1 = 0 then (if ¬ a1 = 1 then (if ¬ a1 = 2 then 4 else 99 : Int32) else 1 : Int32) else 36 : Int32)))] mem Q
        refine ex_br (P := ¬ (zb ((if ¬ a1 = 0 then zb (¬ (¬ a1 = 3)) else 2 : Int32) ≤ a2 ∧ a2 ≤ (if ¬ a1 = 0 then (if ¬ a1 = 1 then (if ¬ a1 = 2 then 4 else 99 : Int32) else 1 : Int32) else 36 : Int32))) = 0) (a := 78) (b := 75) (ls' := [.ref 33, .int a1, .int a2, .int (if ¬ a1 = 0 then zb (¬ (¬ a1 = 3)) else 2 : Int32), .int (if ¬ a1 = 0 then (if ¬ a1 = 1 then (if ¬ a1 = 2 then 4 else 99 : Int32) else 1 : Int32) else 36 : Int32), .null]) (st' := []) (mem' := mem) hS hC rfl (fun h => ?_) (fun h => ?_)
        · replace k := k.1 (zb1 h)
          refine ex_many (pc' := 83) (ls' := [.ref 33, .int a1, .int a2, .int (if ¬ a1 = 0 then zb (¬ (¬ a1 = 3)) else 2 : Int32), .int (if ¬ a1 = 0 then (if ¬ a1 = 1 then (if ¬ a1 = 2 then 4 else 99 : Int32) else 1 : Int32) else 36 : Int32), .null]) (st' := [.int a1, .ref 41]) (mem' := mem) hS hC 3 rfl ?_
          refine ex_grd (b := pm_inb a1 4) (pc' := 84) (ls' := [.ref 33, .int a1, .int a2, .int (if ¬ a1 = 0 then zb (¬ (¬ a1 = 3)) else 2 : Int32), .int (if ¬ a1 = 0 then (if ¬ a1 = 1 then (if ¬ a1 = 2 then 4 else 99 : Int32) else 1 : Int32) else 36 : Int32), .null]) (st' := [.int (mem 41 a1.toNatClampNeg)]) (mem' := mem) hS hC rfl k.1 ?_
          replace k := k.2
          refine ex_many (pc' := 92) (ls' := [.ref 33, .int a1, .int a2, .int (if ¬ a1 = 0 then zb (¬ (¬ a1 = 3)) else 2 : Int32), .int (if ¬ a1 = 0 then (if ¬ a1 = 1 then (if ¬ a1 = 2 then 4 else 99 : Int32) else 1 : Int32) else 36 : Int32), .int (mem 41 a1.toNatClampNeg)]) (st' := [.int a2, .int a1, .ref 41]) (mem' := mem) hS hC 5 rfl ?_
          refine ex_grd (b := pm_inb a1 4) (pc' := 93) (ls' := [.ref 33, .int a1, .int a2, .int (if ¬ a1 = 0 then zb (¬ (¬ a1 = 3)) else 2 : Int32), .int (if ¬ a1 = 0 then (if ¬ a1 = 1 then (if ¬ a1 = 2 then 4 else 99 : Int32) else 1 : Int32) else 36 : Int32), .int (mem 41 a1.toNatClampNeg)]) (st' := []) (mem' := pm_up mem 41 a1.toNatClampNeg a2) hS hC rfl k.1 ?_
          replace k := k.2
          refine ex_many (pc' := 95) (ls' := [.ref 33, .int a1, .int a2, .int (if ¬ a1 = 0 then zb (¬ (¬ a1 = 3)) else 2 : Int32), .int (if ¬ a1 = 0 then (if ¬ a1 = 1 then (if ¬ a1 = 2 then 4 else 99 : Int32) else 1 : Int32) else 36 : Int32), .int (mem 41 a1.toNatClampNeg)]) (st' := [.int (mem 41 a1.toNatClampNeg)]) (mem' := pm_up mem 41 a1.toNatClampNeg a2) hS hC 1 rfl ?_
          exact ex_ret (v := (some (.int (mem 41 a1.toNatClampNeg)))) hS hC rfl rfl rfl k
        · replace k := k.2 (zb0n h)
          refine ex_many (pc' := 77) (ls' := [.ref 33, .int a1, .int a2, .int (if ¬ a1 = 0 then zb (¬ (¬ a1 = 3)) else 2 : Int32), .int (if ¬ a1 = 0 then (if ¬ a1 = 1 then (if ¬ a1 = 2 then 4 else 99 : Int32) else 1 : Int32) else 36 : Int32), .null]) (st' := [.int (-2)]) (mem' := mem) hS hC 1 rfl ?_
          exact ex_ret (v := (some (.int (-2)))) hS hC rfl rfl rfl k
    refine ex_br (P := ¬ a1 = 0) (a := 28) (b := 23) (ls' := [.ref 33, .int a1, .int a2, .int (if ¬ a1 = 0 then zb (¬ (¬ a1 = 3)) else 2 : Int32), .null, .null]) (st' := []) (mem' := mem) hS hC rfl (fun h => ?_) (fun h => ?_)
    · have kp18a : pm_Ex ro m_X10_set 48 [.ref 33, .int a1, .int a2, .int (if ¬ a1 = 0 then zb (¬ (¬ a1 = 3)) else 2 : Int32), .null, .null] [.int (if ¬ a1 = 1 then (if ¬ a1 = 2 then 4 else 99 : Int32) else 1 : Int32)] mem Q := pm_phi1 (f := fun z0 => pm_Ex ro m_X10_set 48 [.ref 33, .int a1, .int a2, .int (if ¬ a1 = 0 then zb (¬ (¬ a1 = 3)) else 2 : Int32), .null, .null] [.int z0] mem Q) (if_pos (h)) kp18
      have kp17 : pm_Ex ro m_X10_set 48 [.ref 33, .int a1, .int a2, .int (if ¬ a1 = 0 then zb (¬ (¬ a1 = 3)) else 2 : Int32), .null, .null] [.int (if ¬ a1 = 1 then (if ¬ a1 = 2 then 4 else 99 : Int32) else 1 : Int32)] mem Q := by
        exact kp18a
      refine ex_many (pc' := 30) (ls' := [.ref 33, .int a1, .int a2, .int (if ¬ a1 = 0 then zb (¬ (¬ a1 = 3)) else 2 : Int32), .null, .null]) (st' := [.int 1, .int a1]) (mem' := mem) hS hC 2 rfl ?_
      refine ex_br (P := ¬ a1 = 1) (a := 37) (b := 33) (ls' := [.ref 33, .int a1, .int a2, .int (if ¬ a1 = 0 then zb (¬ (¬ a1 = 3)) else 2 : Int32), .null, .null]) (st' := []) (mem' := mem) hS hC rfl (fun h => ?_) (fun h => ?_)
      · have kp17a : pm_Ex ro m_X10_set 48 [.ref 33, .int a1, .int a2, .int (if ¬ a1 = 0 then zb (¬ (¬ a1 = 3)) else 2 : Int32), .null, .null] [.int (if ¬ a1 = 2 then 4 else 99 : Int32)] mem Q := pm_phi1 (f := fun z0 => pm_Ex ro m_X10_set 48 [.ref 33, .int a1, .int a2, .int (if ¬ a1 = 0 then zb (¬ (¬ a1 = 3)) else 2 : Int32), .null, .null] [.int z0] mem Q) (if_pos (h)) kp17
        have kp16 : pm_Ex ro m_X10_set 48 [.ref 33, .int a1, .int a2, .int (if ¬ a1 = 0 then zb (¬ (¬ a1 = 3)) else 2 : Int32), .null, .null] [.int (if ¬ a1 = 2 then 4 else 99 : Int32)] mem Q := by
          exact kp17a
        refine ex_many (pc' := 39) (ls' := [.ref 33, .int a1, .int a2, .int (if ¬ a1 = 0 then zb (¬ (¬ a1 = 3)) else 2 : Int32), .null, .null]) (st' := [.int 2, .int a1]) (mem' := mem) hS hC 2 rfl ?_
        refine ex_br (P := ¬ a1 = 2) (a := 47) (b := 42) (ls' := [.ref 33, .int a1, .int a2, .int (if ¬ a1 = 0 then zb (¬ (¬ a1 = 3)) else 2 : Int32), .null, .null]) (st' := []) (mem' := mem) hS hC rfl (fun h => ?_) (fun h => ?_)
        · have kp16a : pm_Ex ro m_X10_set 48 [.ref 33, .int a1, .int a2, .int (if ¬ a1 = 0 then zb (¬ (¬ a1 = 3)) else 2 : Int32), .null, .null] [.int 4] mem Q := pm_phi1 (f := fun z0 => pm_Ex ro m_X10_set 48 [.ref 33, .int a1, .int a2, .int (if ¬ a1 = 0 then zb (¬ (¬ a1 = 3)) else 2 : Int32), .null, .null] [.int z0] mem Q) (if_pos (h)) kp16
          refine ex_many (pc' := 48) (ls' := [.ref 33, .int a1, .int a2, .int (if ¬ a1 = 0 then zb (¬ (¬ a1 = 3)) else 2 : Int32), .null, .null]) (st' := [.int 4]) (mem' := mem) hS hC 1 rfl ?_
          exact kp16a
        · have kp16b : pm_Ex ro m_X10_set 48 [.ref 33, .int a1, .int a2, .int (if ¬ a1 = 0 then zb (¬ (¬ a1 = 3)) else 2 : Int32), .null, .null] [.int 99] mem Q := pm_phi1 (f := fun z0 => pm_Ex ro m_X10_set 48 [.ref 33, .int a1, .int a2, .int (if ¬ a1 = 0 then zb (¬ (¬ a1 = 3)) else 2 : Int32), .null, .null] [.int z0] mem Q) (if_neg (h)) kp16
          refine ex_many (pc' := 48) (ls' := [.ref 33, .int a1, .int a2, .int (if ¬ a1 = 0 then zb (¬ (¬ a1 = 3)) else 2 : Int32), .null, .null]) (st' := [.int 99]) (mem' := mem) hS hC 2 rfl ?_
          exact kp16b
      · have kp17b : pm_Ex ro m_X10_set 48 [.ref 33, .int a1, .int a2, .int (if ¬ a1 = 0 then zb (¬ (¬ a1 = 3)) else 2 : Int32), .null, .null] [.int 1] mem Q := pm_phi1 (f := fun z0 => pm_Ex ro m_X10_set 48 [.ref 33, .int a1, .int a2, .int (if ¬ a1 = 0 then zb (¬ (¬ a1 = 3)) else 2 : Int32), .null, .null] [.int z0] mem Q) (if_neg (h)) kp17
        refine ex_many (pc' := 48) (ls' := [.ref 33, .int a1, .int a2, .int (if ¬ a1 = 0 then zb (¬ (¬ a1 = 3)) else 2 : Int32), .null, .null]) (st' := [.int 1]) (mem' := mem) hS hC 2 rfl ?_
        exact kp17b
    · have kp18b : pm_Ex ro m_X10_set 48 [.ref 33, .int a1, .int a2, .int (if ¬ a1 = 0 then zb (¬ (¬ a1 = 3)) else 2 : Int32), .null, .null] [.int 36] mem Q := pm_phi1 (f := fun z0 => pm_Ex ro m_X10_set 48 [.ref 33, .int a1, .int a2, .int (if ¬ a1 = 0 then zb (¬ (¬ a1 = 3)) else 2 : Int32), .null, .null] [.int z0] mem Q) (if_neg (h)) kp18
      refine ex_many (pc' := 48) (ls' := [.ref 33, .int a1, .int a2, .int (if ¬ a1 = 0 then zb (¬ (¬ a1 = 3)) else 2 : Int32), .null, .null]) (st' := [.int 36]) (mem' := mem) hS hC 2 rfl ?_
      exact kp18b
  refine ex_br (P := ¬ a1 = 0) (a := 8) (b := 4) (ls' := [.ref 33, .int a1, .int a2, .null, .null, .null]) (st' := []) (mem' := mem) hS hC rfl (fun h => ?_) (fun h => ?_)
  · have kp19a : pm_Ex ro m_X10_set 18 [.ref 33, .int a1, .int a2, .null, .null, .null] [.int (zb (¬ (¬ a1 = 3)))] mem Q := pm_phi1 (f := fun z0 => pm_Ex ro m_X10_set 18 [.ref 33, .int a1, .int a2, .null, .null, .null] [.int z0] mem Q) (if_pos (h)) kp19
    have kp15 : pm_Ex ro m_X10_set 18 [.ref 33, .int a1, .int a2, .null, .null, .null] [.int (zb (¬ (¬ a1 = 3)))] mem Q := by
      exact kp19a
    refine ex_many (pc' := 10) (ls' := [.ref 33, .int a1, .int a2, .null, .null, .null]) (st' := [.int 3, .int a1]) (mem' := mem) hS hC 2 rfl ?_
    refine ex_br (P := ¬ a1 = 3) (a := 17) (b := 13) (ls' := [.ref 33, .int a1, .int a2, .null, .null, .null]) (st' := []) (mem' := mem) hS hC rfl (fun h => ?_) (fun h => ?_)
    · have kp15a : pm_Ex ro m_X10_set 18 [.ref 33, .int a1, .int a2, .null, .null, .null] [.int 0] mem Q := pm_phi1 (f := fun z0 => pm_Ex ro m_X10_set 18 [.ref 33, .int a1, .int a2, .null, .null, .null] [.int z0] mem Q) (zb_npos (h)) kp15
      refine ex_many (pc' := 18) (ls' := [.ref 33, .int a1, .int a2, .null, .null, .null]) (st' := [.int 0]) (mem' := mem) hS hC 1 rfl ?_
      exact kp15a
    · have kp15b : pm_Ex ro m_X10_set 18 [.ref 33, .int a1, .int a2, .null, .null, .null] [.int 1] mem Q := pm_phi1 (f := fun z0 => pm_Ex ro m_X10_set 18 [.ref 33, .int a1, .int a2, .null, .null, .null] [.int z0] mem Q) (zb_nneg (h)) kp15
      refine ex_many (pc' := 18) (ls' := [.ref 33, .int a1, .int a2, .null, .null, .null]) (st' := [.int 1]) (mem' := mem) hS hC 2 rfl ?_
      exact kp15b
  · have kp19b : pm_Ex ro m_X10_set 18 [.ref 33, .int a1, .int a2, .null, .null, .null] [.int 2] mem Q := pm_phi1 (f := fun z0 => pm_Ex ro m_X10_set 18 [.ref 33, .int a1, .int a2, .null, .null, .null] [.int z0] mem Q) (if_neg (h)) kp19
    refine ex_many (pc' := 18) (ls' := [.ref 33, .int a1, .int a2, .null, .null, .null]) (st' := [.int 2]) (mem' := mem) hS hC 2 rfl ?_
    exact kp19b

set_option maxRecDepth 20000 in
theorem bk_X10_partner_0 {ro : pm_RO} {Q : Option Value → pm_M → Prop} {mem : pm_M} {a1 a2 : Int32} (k : (0 ≤ a1 ∧ a1 ≤ 7 → (0 ≤ a2 ∧ a2 ≤ 3 → (pm_inb a1 8 = true) ∧ ((pm_inb a1 8 = true) ∧ (Q (some (.int (mem 40 a1.toNatClampNeg))) (pm_up mem 40 a1.toNatClampNeg a2)))) ∧ (¬ (0 ≤ a2 ∧ a2 ≤ 3) → Q (some (.int (-2))) mem)) ∧ (¬ (0 ≤ a1 ∧ a1 ≤ 7) → Q (some (.int (-2))) mem)) : pm_Ex ro m_X10_partner 0 [.ref 33, .int a1, .int a2, .null] [] mem Q := by
  have hS : pm_sig[m_X10_partner]? = some _ := rfl
  have hC : pm_cod[m_X10_partner]? = some _ := rfl
  refine ex_many (pc' := 6) (ls' := [.ref 33, .int a1, .int a2, .null]) (st' := [.long 7, .long 0, .long a1.toInt64]) (mem' := mem) hS hC 4 rfl ?_
  refine ex_call (y' := m_X10_in) (rest := []) (ent := [.long a1.toInt64, .null, .long 0, .null, .long 7, .null]) hS hC rfl rfl rfl rfl rfl rfl ?_
  refine sp_in32 (v := a1) (lo := 0) (hi := 7) (by decide) (by decide) ?_
  show pm_Ex ro m_X10_partner 9 [.ref 33, .int a1, .int a2, .null] [.int (zb (0 ≤ a1 ∧ a1 ≤ 7))] mem Q
  refine ex_br (P := (zb (0 ≤ a1 ∧ a1 ≤ 7)) = 0) (a := 19) (b := 12) (ls' := [.ref 33, .int a1, .int a2, .null]) (st' := []) (mem' := mem) hS hC rfl (fun h => ?_) (fun h => ?_)
  · replace k := k.2 (zb0 h)
    refine ex_many (pc' := 21) (ls' := [.ref 33, .int a1, .int a2, .null]) (st' := [.int (-2)]) (mem' := mem) hS hC 1 rfl ?_
    exact ex_ret (v := (some (.int (-2)))) hS hC rfl rfl rfl k
  · replace k := k.1 (zb1 h)
    refine ex_many (pc' := 13) (ls' := [.ref 33, .int a1, .int a2, .null]) (st' := [.int a2]) (mem' := mem) hS hC 1 rfl ?_
    refine ex_call (y' := m_X10_isPartner) (rest := []) (ent := [.int a2]) hS hC rfl rfl rfl rfl rfl rfl ?_
    refine bk_X10_isPartner_0 ?_
    show pm_Ex ro m_X10_partner 16 [.ref 33, .int a1, .int a2, .null] [.int (zb (0 ≤ a2 ∧ a2 ≤ 3))] mem Q
    refine ex_br (P := ¬ (zb (0 ≤ a2 ∧ a2 ≤ 3)) = 0) (a := 22) (b := 19) (ls' := [.ref 33, .int a1, .int a2, .null]) (st' := []) (mem' := mem) hS hC rfl (fun h => ?_) (fun h => ?_)
    · replace k := k.1 (zb1 h)
      refine ex_many (pc' := 27) (ls' := [.ref 33, .int a1, .int a2, .null]) (st' := [.int a1, .ref 40]) (mem' := mem) hS hC 3 rfl ?_
      refine ex_grd (b := pm_inb a1 8) (pc' := 28) (ls' := [.ref 33, .int a1, .int a2, .null]) (st' := [.int (mem 40 a1.toNatClampNeg)]) (mem' := mem) hS hC rfl k.1 ?_
      replace k := k.2
      refine ex_many (pc' := 35) (ls' := [.ref 33, .int a1, .int a2, .int (mem 40 a1.toNatClampNeg)]) (st' := [.int a2, .int a1, .ref 40]) (mem' := mem) hS hC 5 rfl ?_
      refine ex_grd (b := pm_inb a1 8) (pc' := 36) (ls' := [.ref 33, .int a1, .int a2, .int (mem 40 a1.toNatClampNeg)]) (st' := []) (mem' := pm_up mem 40 a1.toNatClampNeg a2) hS hC rfl k.1 ?_
      replace k := k.2
      refine ex_many (pc' := 37) (ls' := [.ref 33, .int a1, .int a2, .int (mem 40 a1.toNatClampNeg)]) (st' := [.int (mem 40 a1.toNatClampNeg)]) (mem' := pm_up mem 40 a1.toNatClampNeg a2) hS hC 1 rfl ?_
      exact ex_ret (v := (some (.int (mem 40 a1.toNatClampNeg)))) hS hC rfl rfl rfl k
    · replace k := k.2 (zb0n h)
      refine ex_many (pc' := 21) (ls' := [.ref 33, .int a1, .int a2, .null]) (st' := [.int (-2)]) (mem' := mem) hS hC 1 rfl ?_
      exact ex_ret (v := (some (.int (-2)))) hS hC rfl rfl rfl k

set_option maxRecDepth 20000 in
theorem bk_X10_read_0 {ro : pm_RO} {Q : Option Value → pm_M → Prop} {mem : pm_M} {a1 : Int32} (k : (0 ≤ a1 ∧ a1 ≤ 3 → (pm_inb a1 4 = true) ∧ ((0 ≤ (mem 34 a1.toNatClampNeg) → pm_Ex ro m_X10_read 27 [.ref 33, .int a1, .int 0] [] mem Q) ∧ (¬ (0 ≤ (mem 34 a1.toNatClampNeg)) → Q (some (.int ((-10) - (1 : Int32)))) (pm_up mem 33 4 (1 : Int32))))) ∧ (¬ (0 ≤ a1 ∧ a1 ≤ 3) → Q (some (.int (-2))) mem)) : pm_Ex ro m_X10_read 0 [.ref 33, .int a1, .null] [] mem Q := by
  have hS : pm_sig[m_X10_read]? = some _ := rfl
  have hC : pm_cod[m_X10_read]? = some _ := rfl
  refine ex_many (pc' := 1) (ls' := [.ref 33, .int a1, .null]) (st' := [.int a1]) (mem' := mem) hS hC 1 rfl ?_
  refine ex_call (y' := m_X10_isSheet) (rest := []) (ent := [.int a1]) hS hC rfl rfl rfl rfl rfl rfl ?_
  refine bk_X10_isSheet_0 ?_
  show pm_Ex ro m_X10_read 4 [.ref 33, .int a1, .null] [.int (zb (0 ≤ a1 ∧ a1 ≤ 3))] mem Q
  refine ex_br (P := ¬ (zb (0 ≤ a1 ∧ a1 ≤ 3)) = 0) (a := 10) (b := 7) (ls' := [.ref 33, .int a1, .null]) (st' := []) (mem' := mem) hS hC rfl (fun h => ?_) (fun h => ?_)
  · replace k := k.1 (zb1 h)
    refine ex_many (pc' := 15) (ls' := [.ref 33, .int a1, .null]) (st' := [.int a1, .ref 34]) (mem' := mem) hS hC 3 rfl ?_
    refine ex_grd (b := pm_inb a1 4) (pc' := 16) (ls' := [.ref 33, .int a1, .null]) (st' := [.int (mem 34 a1.toNatClampNeg)]) (mem' := mem) hS hC rfl k.1 ?_
    replace k := k.2
    refine ex_br (P := 0 ≤ (mem 34 a1.toNatClampNeg)) (a := 25) (b := 19) (ls' := [.ref 33, .int a1, .null]) (st' := []) (mem' := mem) hS hC rfl (fun h => ?_) (fun h => ?_)
    · replace k := k.1 (h)
      refine ex_many (pc' := 27) (ls' := [.ref 33, .int a1, .int 0]) (st' := []) (mem' := mem) hS hC 2 rfl ?_
      exact k
    · replace k := k.2 (h)
      refine ex_many (pc' := 21) (ls' := [.ref 33, .int a1, .null]) (st' := [.int 1, .ref 33]) (mem' := mem) hS hC 2 rfl ?_
      refine ex_call (y' := m_X10_met) (rest := []) (ent := [.ref 33, .int 1]) hS hC rfl rfl rfl rfl rfl rfl ?_
      refine bk_X10_met_0 ?_
      show pm_Ex ro m_X10_read 24 [.ref 33, .int a1, .null] [.int ((-10) - (1 : Int32))] (pm_up mem 33 4 (1 : Int32)) Q
      exact ex_ret (v := (some (.int ((-10) - (1 : Int32))))) hS hC rfl rfl rfl k
  · replace k := k.2 (zb0n h)
    refine ex_many (pc' := 9) (ls' := [.ref 33, .int a1, .null]) (st' := [.int (-2)]) (mem' := mem) hS hC 1 rfl ?_
    exact ex_ret (v := (some (.int (-2)))) hS hC rfl rfl rfl k

set_option maxRecDepth 20000 in
theorem bk_X10_read_27 {ro : pm_RO} {Q : Option Value → pm_M → Prop} {mem : pm_M} {x1 x2 : Int32} (k : (pm_inb x1 4 = true) ∧ (((mem 35 x1.toNatClampNeg) ≤ x2 → Q (some (.int x2)) mem) ∧ (¬ ((mem 35 x1.toNatClampNeg) ≤ x2) → (pm_inb ((60 * x1) + x2) 240 = true) ∧ (pm_Ex ro m_X10_partner 0 [.ref 33, .int x2, .int (mem 36 (((60 * x1) + x2).toNatClampNeg)), .null] [] mem (fun v m => pm_Ex ro m_X10_read 53 [.ref 33, .int x1, .int x2] (v.toList ++ []) m Q))))) : pm_Ex ro m_X10_read 27 [.ref 33, .int x1, .int x2] [] mem Q := by
  have hS : pm_sig[m_X10_read]? = some _ := rfl
  have hC : pm_cod[m_X10_read]? = some _ := rfl
  refine ex_many (pc' := 33) (ls' := [.ref 33, .int x1, .int x2]) (st' := [.int x1, .ref 35, .int x2]) (mem' := mem) hS hC 4 rfl ?_
  refine ex_grd (b := pm_inb x1 4) (pc' := 34) (ls' := [.ref 33, .int x1, .int x2]) (st' := [.int (mem 35 x1.toNatClampNeg), .int x2]) (mem' := mem) hS hC rfl k.1 ?_
  replace k := k.2
  refine ex_br (P := (mem 35 x1.toNatClampNeg) ≤ x2) (a := 62) (b := 37) (ls' := [.ref 33, .int x1, .int x2]) (st' := []) (mem' := mem) hS hC rfl (fun h => ?_) (fun h => ?_)
  · replace k := k.1 (h)
    refine ex_many (pc' := 63) (ls' := [.ref 33, .int x1, .int x2]) (st' := [.int x2]) (mem' := mem) hS hC 1 rfl ?_
    exact ex_ret (v := (some (.int x2))) hS hC rfl rfl rfl k
  · replace k := k.2 (h)
    refine ex_many (pc' := 49) (ls' := [.ref 33, .int x1, .int x2]) (st' := [.int ((60 * x1) + x2), .ref 36, .int x2, .ref 33]) (mem' := mem) hS hC 9 rfl ?_
    refine ex_grd (b := pm_inb ((60 * x1) + x2) 240) (pc' := 50) (ls' := [.ref 33, .int x1, .int x2]) (st' := [.int (mem 36 (((60 * x1) + x2).toNatClampNeg)), .int x2, .ref 33]) (mem' := mem) hS hC rfl k.1 ?_
    replace k := k.2
    refine ex_call (y' := m_X10_partner) (rest := []) (ent := [.ref 33, .int x2, .int (mem 36 (((60 * x1) + x2).toNatClampNeg)), .null]) hS hC rfl rfl rfl rfl rfl rfl ?_
    exact k

set_option maxRecDepth 20000 in
theorem bk_X10_read_53 {ro : pm_RO} {Q : Option Value → pm_M → Prop} {mem : pm_M} {x1 x2 s0 : Int32} (k : (s0 < 0 → Q (some (.int x2)) mem) ∧ (¬ (s0 < 0) → pm_Ex ro m_X10_read 27 [.ref 33, .int x1, .int (x2 + 1)] [] mem Q)) : pm_Ex ro m_X10_read 53 [.ref 33, .int x1, .int x2] [.int s0] mem Q := by
  have hS : pm_sig[m_X10_read]? = some _ := rfl
  have hC : pm_cod[m_X10_read]? = some _ := rfl
  refine ex_br (P := s0 < 0) (a := 62) (b := 56) (ls' := [.ref 33, .int x1, .int x2]) (st' := []) (mem' := mem) hS hC rfl (fun h => ?_) (fun h => ?_)
  · replace k := k.1 (h)
    refine ex_many (pc' := 63) (ls' := [.ref 33, .int x1, .int x2]) (st' := [.int x2]) (mem' := mem) hS hC 1 rfl ?_
    exact ex_ret (v := (some (.int x2))) hS hC rfl rfl rfl k
  · replace k := k.2 (h)
    refine ex_many (pc' := 27) (ls' := [.ref 33, .int x1, .int (x2 + 1)]) (st' := []) (mem' := mem) hS hC 2 rfl ?_
    exact k

set_option maxRecDepth 20000 in
theorem bk_X10_paidFor_0 {ro : pm_RO} {Q : Option Value → pm_M → Prop} {mem : pm_M} {a1 : Int32} (k : pm_Ex ro m_X10_paidFor 12 [.ref 33, .int a1, .int (mem 41 0), .int a1, .int 1, .null] [] mem Q) : pm_Ex ro m_X10_paidFor 0 [.ref 33, .int a1, .null, .null, .null, .null] [] mem Q := by
  have hS : pm_sig[m_X10_paidFor]? = some _ := rfl
  have hC : pm_cod[m_X10_paidFor]? = some _ := rfl
  refine ex_many (pc' := 12) (ls' := [.ref 33, .int a1, .int (mem 41 0), .int a1, .int 1, .null]) (st' := []) (mem' := mem) hS hC 9 rfl ?_
  exact k

set_option maxRecDepth 20000 in
theorem bk_X10_paidFor_12 {ro : pm_RO} {Q : Option Value → pm_M → Prop} {mem : pm_M} {x1 x2 x3 x4 : Int32} (k : (x3 ≤ 0 → pm_Ex ro m_X10_paidFor 52 [.ref 33, .int x1, .int x2, .int x3, .int x4, .int 0] [] mem Q) ∧ (¬ (x3 ≤ 0) → (¬ x2 = 0) ∧ ((¬ (x3 - x3 / x2 * x2) = 0 → pm_Ex ro m_X10_paidFor 52 [.ref 33, .int x1, .int x2, .int x3, .int x4, .int 0] [] mem Q) ∧ (¬ (¬ (x3 - x3 / x2 * x2) = 0) → (¬ x2 = 0) ∧ (pm_Ex ro m_X10_paidFor 12 [.ref 33, .int x1, .int x2, .int (x3 / x2), .int (x4 * (if ¬ (mem 41 1) = 1 then 1 else x2 : Int32)), .null] [] mem Q))))) : pm_Ex ro m_X10_paidFor 12 [.ref 33, .int x1, .int x2, .int x3, .int x4, .null] [] mem Q := by
  have hS : pm_sig[m_X10_paidFor]? = some _ := rfl
  have hC : pm_cod[m_X10_paidFor]? = some _ := rfl
  refine ex_many (pc' := 13) (ls' := [.ref 33, .int x1, .int x2, .int x3, .int x4, .null]) (st' := [.int x3]) (mem' := mem) hS hC 1 rfl ?_
  refine ex_br (P := x3 ≤ 0) (a := 49) (b := 16) (ls' := [.ref 33, .int x1, .int x2, .int x3, .int x4, .null]) (st' := []) (mem' := mem) hS hC rfl (fun h => ?_) (fun h => ?_)
  · replace k := k.1 (h)
    refine ex_many (pc' := 52) (ls' := [.ref 33, .int x1, .int x2, .int x3, .int x4, .int 0]) (st' := []) (mem' := mem) hS hC 2 rfl ?_
    exact k
  · replace k := k.2 (h)
    refine ex_many (pc' := 18) (ls' := [.ref 33, .int x1, .int x2, .int x3, .int x4, .null]) (st' := [.int x2, .int x3]) (mem' := mem) hS hC 2 rfl ?_
    refine ex_grd (b := !(decide (x2 = 0))) (pc' := 19) (ls' := [.ref 33, .int x1, .int x2, .int x3, .int x4, .null]) (st' := [.int (x3 - x3 / x2 * x2)]) (mem' := mem) hS hC rfl (pm_nz k.1) ?_
    replace k := k.2
    refine ex_br (P := ¬ (x3 - x3 / x2 * x2) = 0) (a := 49) (b := 22) (ls' := [.ref 33, .int x1, .int x2, .int x3, .int x4, .null]) (st' := []) (mem' := mem) hS hC rfl (fun h => ?_) (fun h => ?_)
    · replace k := k.1 (h)
      refine ex_many (pc' := 52) (ls' := [.ref 33, .int x1, .int x2, .int x3, .int x4, .int 0]) (st' := []) (mem' := mem) hS hC 2 rfl ?_
      exact k
    · replace k := k.2 (h)
      refine ex_many (pc' := 24) (ls' := [.ref 33, .int x1, .int x2, .int x3, .int x4, .null]) (st' := [.int x2, .int x3]) (mem' := mem) hS hC 2 rfl ?_
      refine ex_grd (b := !(decide (x2 = 0))) (pc' := 25) (ls' := [.ref 33, .int x1, .int x2, .int x3, .int x4, .null]) (st' := [.int (x3 / x2)]) (mem' := mem) hS hC rfl (pm_nz k.1) ?_
      replace k := k.2
      refine ex_many (pc' := 35) (ls' := [.ref 33, .int x1, .int x2, .int (x3 / x2), .int x4, .null]) (st' := [.int 1, .int (mem 41 1), .int x4]) (mem' := mem) hS hC 7 rfl ?_
      have kp20 : pm_Ex ro m_X10_paidFor 43 [.ref 33, .int x1, .int x2, .int (x3 / x2), .int x4, .null] [.int (if ¬ (mem 41 1) = 1 then 1 else x2 : Int32), .int x4] mem Q := by
        refine ex_many (pc' := 12) (ls' := [.ref 33, .int x1, .int x2, .int (x3 / x2), .int (x4 * (if ¬ (mem 41 1) = 1 then 1 else x2 : Int32)), .null]) (st' := []) (mem' := mem) hS hC 3 rfl ?_
        exact k
      refine ex_br (P := ¬ (mem 41 1) = 1) (a := 42) (b := 38) (ls' := [.ref 33, .int x1, .int x2, .int (x3 / x2), .int x4, .null]) (st' := [.int x4]) (mem' := mem) hS hC rfl (fun h => ?_) (fun h => ?_)
      · have kp20a : pm_Ex ro m_X10_paidFor 43 [.ref 33, .int x1, .int x2, .int (x3 / x2), .int x4, .null] [.int 1, .int x4] mem Q := pm_phi1 (f := fun z0 => pm_Ex ro m_X10_paidFor 43 [.ref 33, .int x1, .int x2, .int (x3 / x2), .int x4, .null] [.int z0, .int x4] mem Q) (if_pos (h)) kp20
        refine ex_many (pc' := 43) (ls' := [.ref 33, .int x1, .int x2, .int (x3 / x2), .int x4, .null]) (st' := [.int 1, .int x4]) (mem' := mem) hS hC 1 rfl ?_
        exact kp20a
      · have kp20b : pm_Ex ro m_X10_paidFor 43 [.ref 33, .int x1, .int x2, .int (x3 / x2), .int x4, .null] [.int x2, .int x4] mem Q := pm_phi1 (f := fun z0 => pm_Ex ro m_X10_paidFor 43 [.ref 33, .int x1, .int x2, .int (x3 / x2), .int x4, .null] [.int z0, .int x4] mem Q) (if_neg (h)) kp20
        refine ex_many (pc' := 43) (ls' := [.ref 33, .int x1, .int x2, .int (x3 / x2), .int x4, .null]) (st' := [.int x2, .int x4]) (mem' := mem) hS hC 2 rfl ?_
        exact kp20b

set_option maxRecDepth 20000 in
theorem bk_X10_paidFor_52 {ro : pm_RO} {Q : Option Value → pm_M → Prop} {mem : pm_M} {x1 x2 x3 x4 x5 : Int32} (k : (x3 ≤ 0 → Q (some (.int (x5 * x4))) mem) ∧ (¬ (x3 ≤ 0) → (¬ x2 = 0) ∧ ((¬ x2 = 0) ∧ (pm_Ex ro m_X10_paidFor 52 [.ref 33, .int x1, .int x2, .int (x3 / x2), .int x4, .int ((x2 * x5) + (x3 - x3 / x2 * x2))] [] mem Q)))) : pm_Ex ro m_X10_paidFor 52 [.ref 33, .int x1, .int x2, .int x3, .int x4, .int x5] [] mem Q := by
  have hS : pm_sig[m_X10_paidFor]? = some _ := rfl
  have hC : pm_cod[m_X10_paidFor]? = some _ := rfl
  refine ex_many (pc' := 53) (ls' := [.ref 33, .int x1, .int x2, .int x3, .int x4, .int x5]) (st' := [.int x3]) (mem' := mem) hS hC 1 rfl ?_
  refine ex_br (P := x3 ≤ 0) (a := 73) (b := 56) (ls' := [.ref 33, .int x1, .int x2, .int x3, .int x4, .int x5]) (st' := []) (mem' := mem) hS hC rfl (fun h => ?_) (fun h => ?_)
  · replace k := k.1 (h)
    refine ex_many (pc' := 78) (ls' := [.ref 33, .int x1, .int x2, .int x3, .int x4, .int x5]) (st' := [.int (x5 * x4)]) (mem' := mem) hS hC 3 rfl ?_
    exact ex_ret (v := (some (.int (x5 * x4)))) hS hC rfl rfl rfl k
  · replace k := k.2 (h)
    refine ex_many (pc' := 62) (ls' := [.ref 33, .int x1, .int x2, .int x3, .int x4, .int x5]) (st' := [.int x2, .int x3, .int (x2 * x5)]) (mem' := mem) hS hC 5 rfl ?_
    refine ex_grd (b := !(decide (x2 = 0))) (pc' := 63) (ls' := [.ref 33, .int x1, .int x2, .int x3, .int x4, .int x5]) (st' := [.int (x3 - x3 / x2 * x2), .int (x2 * x5)]) (mem' := mem) hS hC rfl (pm_nz k.1) ?_
    replace k := k.2
    refine ex_many (pc' := 68) (ls' := [.ref 33, .int x1, .int x2, .int x3, .int x4, .int ((x2 * x5) + (x3 - x3 / x2 * x2))]) (st' := [.int x2, .int x3]) (mem' := mem) hS hC 4 rfl ?_
    refine ex_grd (b := !(decide (x2 = 0))) (pc' := 69) (ls' := [.ref 33, .int x1, .int x2, .int x3, .int x4, .int ((x2 * x5) + (x3 - x3 / x2 * x2))]) (st' := [.int (x3 / x2)]) (mem' := mem) hS hC rfl (pm_nz k.1) ?_
    replace k := k.2
    refine ex_many (pc' := 52) (ls' := [.ref 33, .int x1, .int x2, .int (x3 / x2), .int x4, .int ((x2 * x5) + (x3 - x3 / x2 * x2))]) (st' := []) (mem' := mem) hS hC 2 rfl ?_
    exact k

set_option maxRecDepth 20000 in
theorem bk_X10_paid_0 {ro : pm_RO} {Q : Option Value → pm_M → Prop} {mem : pm_M} {a1 : Int32} (k : (0 ≤ a1 ∧ a1 ≤ 9999 → pm_Ex ro m_X10_paidFor 0 [.ref 33, .int a1, .null, .null, .null, .null] [] mem (fun v m => pm_Ex ro m_X10_paid 12 [.ref 33, .int a1] (v.toList ++ []) m Q)) ∧ (¬ (0 ≤ a1 ∧ a1 ≤ 9999) → Q (some (.int (-2))) mem)) : pm_Ex ro m_X10_paid 0 [.ref 33, .int a1] [] mem Q := by
  have hS : pm_sig[m_X10_paid]? = some _ := rfl
  have hC : pm_cod[m_X10_paid]? = some _ := rfl
  refine ex_many (pc' := 1) (ls' := [.ref 33, .int a1]) (st' := [.int a1]) (mem' := mem) hS hC 1 rfl ?_
  refine ex_call (y' := m_X10_isNumber) (rest := []) (ent := [.int a1]) hS hC rfl rfl rfl rfl rfl rfl ?_
  refine bk_X10_isNumber_0 ?_
  show pm_Ex ro m_X10_paid 4 [.ref 33, .int a1] [.int (zb (0 ≤ a1 ∧ a1 ≤ 9999))] mem Q
  refine ex_br (P := (zb (0 ≤ a1 ∧ a1 ≤ 9999)) = 0) (a := 15) (b := 7) (ls' := [.ref 33, .int a1]) (st' := []) (mem' := mem) hS hC rfl (fun h => ?_) (fun h => ?_)
  · replace k := k.2 (zb0 h)
    refine ex_many (pc' := 17) (ls' := [.ref 33, .int a1]) (st' := [.int (-2)]) (mem' := mem) hS hC 1 rfl ?_
    exact ex_ret (v := (some (.int (-2)))) hS hC rfl rfl rfl k
  · replace k := k.1 (zb1 h)
    refine ex_many (pc' := 9) (ls' := [.ref 33, .int a1]) (st' := [.int a1, .ref 33]) (mem' := mem) hS hC 2 rfl ?_
    refine ex_call (y' := m_X10_paidFor) (rest := []) (ent := [.ref 33, .int a1, .null, .null, .null, .null]) hS hC rfl rfl rfl rfl rfl rfl ?_
    exact k

set_option maxRecDepth 20000 in
theorem bk_X10_paid_12 {ro : pm_RO} {Q : Option Value → pm_M → Prop} {mem : pm_M} {x1 s0 : Int32} (k : Q (some (.int s0)) mem) : pm_Ex ro m_X10_paid 12 [.ref 33, .int x1] [.int s0] mem Q := by
  have hS : pm_sig[m_X10_paid]? = some _ := rfl
  have hC : pm_cod[m_X10_paid]? = some _ := rfl
  refine ex_many (pc' := 17) (ls' := [.ref 33, .int x1]) (st' := [.int s0]) (mem' := mem) hS hC 1 rfl ?_
  exact ex_ret (v := (some (.int s0))) hS hC rfl rfl rfl k

set_option maxRecDepth 20000 in
theorem bk_X10_sumOf_0 {ro : pm_RO} {Q : Option Value → pm_M → Prop} {mem : pm_M} {a1 : Int32} (k : pm_Ex ro m_X10_sumOf 4 [.ref 33, .int a1, .int 0, .int 0] [] mem Q) : pm_Ex ro m_X10_sumOf 0 [.ref 33, .int a1, .null, .null] [] mem Q := by
  have hS : pm_sig[m_X10_sumOf]? = some _ := rfl
  have hC : pm_cod[m_X10_sumOf]? = some _ := rfl
  refine ex_many (pc' := 4) (ls' := [.ref 33, .int a1, .int 0, .int 0]) (st' := []) (mem' := mem) hS hC 4 rfl ?_
  exact k

set_option maxRecDepth 20000 in
theorem bk_X10_sumOf_4 {ro : pm_RO} {Q : Option Value → pm_M → Prop} {mem : pm_M} {x1 x2 x3 : Int32} (k : ((mem 33 8) ≤ x3 → Q (some (.int x2)) mem) ∧ (¬ ((mem 33 8) ≤ x3) → (¬ (¬ ((x1 >>> (x3 &&& 31)) &&& 1) = 1) → (pm_inb x3 8 = true) ∧ (pm_Ex ro m_X10_sumOf 4 [.ref 33, .int x1, .int (x2 + (mem 39 x3.toNatClampNeg)), .int (x3 + 1)] [] mem Q)) ∧ (¬ (¬ (¬ ((x1 >>> (x3 &&& 31)) &&& 1) = 1)) → pm_Ex ro m_X10_sumOf 4 [.ref 33, .int x1, .int (x2 + 0), .int (x3 + 1)] [] mem Q))) : pm_Ex ro m_X10_sumOf 4 [.ref 33, .int x1, .int x2, .int x3] [] mem Q := by
  have hS : pm_sig[m_X10_sumOf]? = some _ := rfl
  have hC : pm_cod[m_X10_sumOf]? = some _ := rfl
  refine ex_many (pc' := 9) (ls' := [.ref 33, .int x1, .int x2, .int x3]) (st' := [.int (mem 33 8), .int x3]) (mem' := mem) hS hC 3 rfl ?_
  refine ex_br (P := (mem 33 8) ≤ x3) (a := 39) (b := 12) (ls' := [.ref 33, .int x1, .int x2, .int x3]) (st' := []) (mem' := mem) hS hC rfl (fun h => ?_) (fun h => ?_)
  · replace k := k.1 (h)
    refine ex_many (pc' := 40) (ls' := [.ref 33, .int x1, .int x2, .int x3]) (st' := [.int x2]) (mem' := mem) hS hC 1 rfl ?_
    exact ex_ret (v := (some (.int x2))) hS hC rfl rfl rfl k
  · replace k := k.2 (h)
    refine ex_many (pc' := 15) (ls' := [.ref 33, .int x1, .int x2, .int x3]) (st' := [.int x3, .int x1, .int x2]) (mem' := mem) hS hC 3 rfl ?_
    refine ex_call (y' := m_X10_isIn) (rest := [.int x2]) (ent := [.int x1, .int x3]) hS hC rfl rfl rfl rfl rfl rfl ?_
    refine bk_X10_isIn_0 ?_
    show pm_Ex ro m_X10_sumOf 18 [.ref 33, .int x1, .int x2, .int x3] [.int (zb (¬ (¬ ((x1 >>> (x3 &&& 31)) &&& 1) = 1))), .int x2] mem Q
    refine ex_br (P := (zb (¬ (¬ ((x1 >>> (x3 &&& 31)) &&& 1) = 1))) = 0) (a := 30) (b := 21) (ls' := [.ref 33, .int x1, .int x2, .int x3]) (st' := [.int x2]) (mem' := mem) hS hC rfl (fun h => ?_) (fun h => ?_)
    · replace k := k.2 (zb0 h)
      refine ex_many (pc' := 4) (ls' := [.ref 33, .int x1, .int (x2 + 0), .int (x3 + 1)]) (st' := []) (mem' := mem) hS hC 5 rfl ?_
      exact k
    · replace k := k.1 (zb1 h)
      refine ex_many (pc' := 26) (ls' := [.ref 33, .int x1, .int x2, .int x3]) (st' := [.int x3, .ref 39, .int x2]) (mem' := mem) hS hC 3 rfl ?_
      refine ex_grd (b := pm_inb x3 8) (pc' := 27) (ls' := [.ref 33, .int x1, .int x2, .int x3]) (st' := [.int (mem 39 x3.toNatClampNeg), .int x2]) (mem' := mem) hS hC rfl k.1 ?_
      replace k := k.2
      refine ex_many (pc' := 4) (ls' := [.ref 33, .int x1, .int (x2 + (mem 39 x3.toNatClampNeg)), .int (x3 + 1)]) (st' := []) (mem' := mem) hS hC 5 rfl ?_
      exact k

set_option maxRecDepth 20000 in
theorem bk_X10_bill_0 {ro : pm_RO} {Q : Option Value → pm_M → Prop} {mem : pm_M} {a1 a2 : Int32} (k : pm_Ex ro m_X10_reads 0 [.ref 33, .null] [] mem (fun v m => pm_Ex ro m_X10_bill 4 [.ref 33, .int a1, .int a2] (v.toList ++ []) m Q)) : pm_Ex ro m_X10_bill 0 [.ref 33, .int a1, .int a2] [] mem Q := by
  have hS : pm_sig[m_X10_bill]? = some _ := rfl
  have hC : pm_cod[m_X10_bill]? = some _ := rfl
  refine ex_many (pc' := 1) (ls' := [.ref 33, .int a1, .int a2]) (st' := [.ref 33]) (mem' := mem) hS hC 1 rfl ?_
  refine ex_call (y' := m_X10_reads) (rest := []) (ent := [.ref 33, .null]) hS hC rfl rfl rfl rfl rfl rfl ?_
  exact k

set_option maxRecDepth 20000 in
theorem bk_X10_bill_4 {ro : pm_RO} {Q : Option Value → pm_M → Prop} {mem : pm_M} {x1 x2 s0 : Int32} (k : (1 ≤ x1 ∧ x1 ≤ (((1 : Int32) <<< ((mem 33 8) &&& 31)) - 1) → (0 ≤ x2 ∧ x2 ≤ 1 → (¬ x2 = 0 → pm_Ex ro m_X10_sumOf 0 [.ref 33, .int x1, .null, .null] [] mem (fun v m => pm_Ex ro m_X10_bill 47 [.ref 33, .int x1, .int x2] (v.toList ++ [.ref 33]) m Q)) ∧ (¬ (¬ x2 = 0) → pm_Ex ro m_X10_sumOf 0 [.ref 33, .int x1, .null, .null] [] mem (fun v m => pm_Ex ro m_X10_bill 38 [.ref 33, .int x1, .int x2] (v.toList ++ []) m Q))) ∧ (¬ (0 ≤ x2 ∧ x2 ≤ 1) → Q (some (.int (-2))) mem)) ∧ (¬ (1 ≤ x1 ∧ x1 ≤ (((1 : Int32) <<< ((mem 33 8) &&& 31)) - 1)) → Q (some (.int (-2))) mem)) : pm_Ex ro m_X10_bill 4 [.ref 33, .int x1, .int x2] [.int s0] mem Q := by
  have hS : pm_sig[m_X10_bill]? = some _ := rfl
  have hC : pm_cod[m_X10_bill]? = some _ := rfl
  refine ex_many (pc' := 9) (ls' := [.ref 33, .int x1, .int x2]) (st' := [.ref 33, .long 1, .long x1.toInt64]) (mem' := mem) hS hC 5 rfl ?_
  refine ex_call (y' := m_X10_whole) (rest := [.long 1, .long x1.toInt64]) (ent := [.ref 33]) hS hC rfl rfl rfl rfl rfl rfl ?_
  refine bk_X10_whole_0 ?_
  show pm_Ex ro m_X10_bill 12 [.ref 33, .int x1, .int x2] [.int (((1 : Int32) <<< ((mem 33 8) &&& 31)) - 1), .long 1, .long x1.toInt64] mem Q
  refine ex_many (pc' := 13) (ls' := [.ref 33, .int x1, .int x2]) (st' := [.long ((((1 : Int32) <<< ((mem 33 8) &&& 31)) - 1).toInt64), .long 1, .long x1.toInt64]) (mem' := mem) hS hC 1 rfl ?_
  refine ex_call (y' := m_X10_in) (rest := []) (ent := [.long x1.toInt64, .null, .long 1, .null, .long ((((1 : Int32) <<< ((mem 33 8) &&& 31)) - 1).toInt64), .null]) hS hC rfl rfl rfl rfl rfl rfl ?_
  refine sp_in32 (v := x1) (lo := 1) (hi := (((1 : Int32) <<< ((mem 33 8) &&& 31)) - 1)) (by decide) rfl ?_
  show pm_Ex ro m_X10_bill 16 [.ref 33, .int x1, .int x2] [.int (zb (1 ≤ x1 ∧ x1 ≤ (((1 : Int32) <<< ((mem 33 8) &&& 31)) - 1)))] mem Q
  refine ex_br (P := (zb (1 ≤ x1 ∧ x1 ≤ (((1 : Int32) <<< ((mem 33 8) &&& 31)) - 1))) = 0) (a := 26) (b := 19) (ls' := [.ref 33, .int x1, .int x2]) (st' := []) (mem' := mem) hS hC rfl (fun h => ?_) (fun h => ?_)
  · replace k := k.2 (zb0 h)
    refine ex_many (pc' := 28) (ls' := [.ref 33, .int x1, .int x2]) (st' := [.int (-2)]) (mem' := mem) hS hC 1 rfl ?_
    exact ex_ret (v := (some (.int (-2)))) hS hC rfl rfl rfl k
  · replace k := k.1 (zb1 h)
    refine ex_many (pc' := 20) (ls' := [.ref 33, .int x1, .int x2]) (st' := [.int x2]) (mem' := mem) hS hC 1 rfl ?_
    refine ex_call (y' := m_X10_isTwo) (rest := []) (ent := [.int x2]) hS hC rfl rfl rfl rfl rfl rfl ?_
    refine bk_X10_isTwo_0 ?_
    show pm_Ex ro m_X10_bill 23 [.ref 33, .int x1, .int x2] [.int (zb (0 ≤ x2 ∧ x2 ≤ 1))] mem Q
    refine ex_br (P := ¬ (zb (0 ≤ x2 ∧ x2 ≤ 1)) = 0) (a := 29) (b := 26) (ls' := [.ref 33, .int x1, .int x2]) (st' := []) (mem' := mem) hS hC rfl (fun h => ?_) (fun h => ?_)
    · replace k := k.1 (zb1 h)
      refine ex_many (pc' := 30) (ls' := [.ref 33, .int x1, .int x2]) (st' := [.int x2]) (mem' := mem) hS hC 1 rfl ?_
      refine ex_br (P := ¬ x2 = 0) (a := 41) (b := 33) (ls' := [.ref 33, .int x1, .int x2]) (st' := []) (mem' := mem) hS hC rfl (fun h => ?_) (fun h => ?_)
      · replace k := k.1 (h)
        refine ex_many (pc' := 44) (ls' := [.ref 33, .int x1, .int x2]) (st' := [.int x1, .ref 33, .ref 33]) (mem' := mem) hS hC 3 rfl ?_
        refine ex_call (y' := m_X10_sumOf) (rest := [.ref 33]) (ent := [.ref 33, .int x1, .null, .null]) hS hC rfl rfl rfl rfl rfl rfl ?_
        exact k
      · replace k := k.2 (h)
        refine ex_many (pc' := 35) (ls' := [.ref 33, .int x1, .int x2]) (st' := [.int x1, .ref 33]) (mem' := mem) hS hC 2 rfl ?_
        refine ex_call (y' := m_X10_sumOf) (rest := []) (ent := [.ref 33, .int x1, .null, .null]) hS hC rfl rfl rfl rfl rfl rfl ?_
        exact k
    · replace k := k.2 (zb0n h)
      refine ex_many (pc' := 28) (ls' := [.ref 33, .int x1, .int x2]) (st' := [.int (-2)]) (mem' := mem) hS hC 1 rfl ?_
      exact ex_ret (v := (some (.int (-2)))) hS hC rfl rfl rfl k

set_option maxRecDepth 20000 in
theorem bk_X10_bill_38 {ro : pm_RO} {Q : Option Value → pm_M → Prop} {mem : pm_M} {x1 x2 s0 : Int32} (k : Q (some (.int s0)) mem) : pm_Ex ro m_X10_bill 38 [.ref 33, .int x1, .int x2] [.int s0] mem Q := by
  have hS : pm_sig[m_X10_bill]? = some _ := rfl
  have hC : pm_cod[m_X10_bill]? = some _ := rfl
  refine ex_many (pc' := 50) (ls' := [.ref 33, .int x1, .int x2]) (st' := [.int s0]) (mem' := mem) hS hC 1 rfl ?_
  exact ex_ret (v := (some (.int s0))) hS hC rfl rfl rfl k

set_option maxRecDepth 20000 in
theorem bk_X10_bill_47 {ro : pm_RO} {Q : Option Value → pm_M → Prop} {mem : pm_M} {x1 x2 s0 : Int32} (k : pm_Ex ro m_X10_paidFor 0 [.ref 33, .int s0, .null, .null, .null, .null] [] mem (fun v m => pm_Ex ro m_X10_bill 50 [.ref 33, .int x1, .int x2] (v.toList ++ []) m Q)) : pm_Ex ro m_X10_bill 47 [.ref 33, .int x1, .int x2] [.int s0, .ref 33] mem Q := by
  have hS : pm_sig[m_X10_bill]? = some _ := rfl
  have hC : pm_cod[m_X10_bill]? = some _ := rfl
  refine ex_call (y' := m_X10_paidFor) (rest := []) (ent := [.ref 33, .int s0, .null, .null, .null, .null]) hS hC rfl rfl rfl rfl rfl rfl ?_
  exact k

set_option maxRecDepth 20000 in
theorem bk_X10_bill_50 {ro : pm_RO} {Q : Option Value → pm_M → Prop} {mem : pm_M} {x1 x2 s0 : Int32} (k : Q (some (.int s0)) mem) : pm_Ex ro m_X10_bill 50 [.ref 33, .int x1, .int x2] [.int s0] mem Q := by
  have hS : pm_sig[m_X10_bill]? = some _ := rfl
  have hC : pm_cod[m_X10_bill]? = some _ := rfl
  exact ex_ret (v := (some (.int s0))) hS hC rfl rfl rfl k

set_option maxRecDepth 20000 in
theorem bk_X10_findBills_0 {ro : pm_RO} {Q : Option Value → pm_M → Prop} {mem : pm_M} (k : pm_Ex ro m_X10_findBills 2 [.ref 33, .int 0, .null, .null, .null, .null, .null] [] mem Q) : pm_Ex ro m_X10_findBills 0 [.ref 33, .null, .null, .null, .null, .null, .null] [] mem Q := by
  have hS : pm_sig[m_X10_findBills]? = some _ := rfl
  have hC : pm_cod[m_X10_findBills]? = some _ := rfl
  refine ex_many (pc' := 2) (ls' := [.ref 33, .int 0, .null, .null, .null, .null, .null]) (st' := []) (mem' := mem) hS hC 2 rfl ?_
  exact k

set_option maxRecDepth 20000 in
theorem bk_X10_findBills_2 {ro : pm_RO} {Q : Option Value → pm_M → Prop} {mem : pm_M} {x1 : Int32} (k : ((((1 : Int32) <<< ((mem 33 8) &&& 31)) - 1) < x1 → pm_Ex ro m_X10_findBills 71 [.ref 33, .int 1, .null, .null, .null, .null, .null] [] mem Q) ∧ (¬ ((((1 : Int32) <<< ((mem 33 8) &&& 31)) - 1) < x1) → pm_Ex ro m_X10_sumOf 0 [.ref 33, .int x1, .null, .null] [] mem (fun v m => pm_Ex ro m_X10_findBills 21 [.ref 33, .int x1, .null, .null, .null, .null, .null] (v.toList ++ [.ref 33, .int x1, .ref 44]) m Q))) : pm_Ex ro m_X10_findBills 2 [.ref 33, .int x1, .null, .null, .null, .null, .null] [] mem Q := by
  have hS : pm_sig[m_X10_findBills]? = some _ := rfl
  have hC : pm_cod[m_X10_findBills]? = some _ := rfl
  refine ex_many (pc' := 4) (ls' := [.ref 33, .int x1, .null, .null, .null, .null, .null]) (st' := [.ref 33, .int x1]) (mem' := mem) hS hC 2 rfl ?_
  refine ex_call (y' := m_X10_whole) (rest := [.int x1]) (ent := [.ref 33]) hS hC rfl rfl rfl rfl rfl rfl ?_
  refine bk_X10_whole_0 ?_
  show pm_Ex ro m_X10_findBills 7 [.ref 33, .int x1, .null, .null, .null, .null, .null] [.int (((1 : Int32) <<< ((mem 33 8) &&& 31)) - 1), .int x1] mem Q
  refine ex_br (P := (((1 : Int32) <<< ((mem 33 8) &&& 31)) - 1) < x1) (a := 69) (b := 10) (ls' := [.ref 33, .int x1, .null, .null, .null, .null, .null]) (st' := []) (mem' := mem) hS hC rfl (fun h => ?_) (fun h => ?_)
  · replace k := k.1 (h)
    refine ex_many (pc' := 71) (ls' := [.ref 33, .int 1, .null, .null, .null, .null, .null]) (st' := []) (mem' := mem) hS hC 2 rfl ?_
    exact k
  · replace k := k.2 (h)
    refine ex_many (pc' := 18) (ls' := [.ref 33, .int x1, .null, .null, .null, .null, .null]) (st' := [.int x1, .ref 33, .ref 33, .int x1, .ref 44]) (mem' := mem) hS hC 6 rfl ?_
    refine ex_call (y' := m_X10_sumOf) (rest := [.ref 33, .int x1, .ref 44]) (ent := [.ref 33, .int x1, .null, .null]) hS hC rfl rfl rfl rfl rfl rfl ?_
    exact k

set_option maxRecDepth 20000 in
theorem bk_X10_findBills_71 {ro : pm_RO} {Q : Option Value → pm_M → Prop} {mem : pm_M} {x1 : Int32} {d2 d3 d4 d5 d6 : Value} (k : ((mem 41 3) < x1 → Q none mem) ∧ (¬ ((mem 41 3) < x1) → pm_Ex ro m_X10_findBills 83 [.ref 33, .int x1, .int 0, d3, d4, d5, d6] [] mem Q)) : pm_Ex ro m_X10_findBills 71 [.ref 33, .int x1, d2, d3, d4, d5, d6] [] mem Q := by
  have hS : pm_sig[m_X10_findBills]? = some _ := rfl
  have hC : pm_cod[m_X10_findBills]? = some _ := rfl
  refine ex_many (pc' := 78) (ls' := [.ref 33, .int x1, d2, d3, d4, d5, d6]) (st' := [.int (mem 41 3), .int x1]) (mem' := mem) hS hC 5 rfl ?_
  refine ex_br (P := (mem 41 3) < x1) (a := 293) (b := 81) (ls' := [.ref 33, .int x1, d2, d3, d4, d5, d6]) (st' := []) (mem' := mem) hS hC rfl (fun h => ?_) (fun h => ?_)
  · replace k := k.1 (h)
    exact ex_ret (v := none) hS hC rfl rfl rfl k
  · replace k := k.2 (h)
    refine ex_many (pc' := 83) (ls' := [.ref 33, .int x1, .int 0, d3, d4, d5, d6]) (st' := []) (mem' := mem) hS hC 2 rfl ?_
    exact k

set_option maxRecDepth 20000 in
theorem bk_X10_findBills_83 {ro : pm_RO} {Q : Option Value → pm_M → Prop} {mem : pm_M} {x1 x2 : Int32} {d3 d4 d5 d6 : Value} (k : ((((1 : Int32) <<< ((mem 33 8) &&& 31)) - 1) < x2 → pm_Ex ro m_X10_findBills 71 [.ref 33, .int (x1 + 1), .int x2, d3, d4, d5, d6] [] mem Q) ∧ (¬ ((((1 : Int32) <<< ((mem 33 8) &&& 31)) - 1) < x2) → (pm_inb ((256 * x1) + x2) 1280 = true) ∧ ((pm_inb ((256 * x1) + x2) 1280 = true) ∧ (pm_Ex ro m_X10_findBills 123 [.ref 33, .int x1, .int x2, .int ((256 * x1) + x2), .int (x2 &&& (-x2)), .int x2, d6] [] (pm_up (pm_up mem 42 (((256 * x1) + x2).toNatClampNeg) 100000000) 43 (((256 * x1) + x2).toNatClampNeg) (-1)) Q)))) : pm_Ex ro m_X10_findBills 83 [.ref 33, .int x1, .int x2, d3, d4, d5, d6] [] mem Q := by
  have hS : pm_sig[m_X10_findBills]? = some _ := rfl
  have hC : pm_cod[m_X10_findBills]? = some _ := rfl
  refine ex_many (pc' := 85) (ls' := [.ref 33, .int x1, .int x2, d3, d4, d5, d6]) (st' := [.ref 33, .int x2]) (mem' := mem) hS hC 2 rfl ?_
  refine ex_call (y' := m_X10_whole) (rest := [.int x2]) (ent := [.ref 33]) hS hC rfl rfl rfl rfl rfl rfl ?_
  refine bk_X10_whole_0 ?_
  show pm_Ex ro m_X10_findBills 88 [.ref 33, .int x1, .int x2, d3, d4, d5, d6] [.int (((1 : Int32) <<< ((mem 33 8) &&& 31)) - 1), .int x2] mem Q
  refine ex_br (P := (((1 : Int32) <<< ((mem 33 8) &&& 31)) - 1) < x2) (a := 287) (b := 91) (ls' := [.ref 33, .int x1, .int x2, d3, d4, d5, d6]) (st' := []) (mem' := mem) hS hC rfl (fun h => ?_) (fun h => ?_)
  · replace k := k.1 (h)
    refine ex_many (pc' := 71) (ls' := [.ref 33, .int (x1 + 1), .int x2, d3, d4, d5, d6]) (st' := []) (mem' := mem) hS hC 2 rfl ?_
    exact k
  · replace k := k.2 (h)
    refine ex_many (pc' := 106) (ls' := [.ref 33, .int x1, .int x2, .int ((256 * x1) + x2), d4, d5, d6]) (st' := [.int 100000000, .int ((256 * x1) + x2), .ref 42]) (mem' := mem) hS hC 10 rfl ?_
    refine ex_grd (b := pm_inb ((256 * x1) + x2) 1280) (pc' := 107) (ls' := [.ref 33, .int x1, .int x2, .int ((256 * x1) + x2), d4, d5, d6]) (st' := []) (mem' := pm_up mem 42 (((256 * x1) + x2).toNatClampNeg) 100000000) hS hC rfl k.1 ?_
    replace k := k.2
    refine ex_many (pc' := 113) (ls' := [.ref 33, .int x1, .int x2, .int ((256 * x1) + x2), d4, d5, d6]) (st' := [.int (-1), .int ((256 * x1) + x2), .ref 43]) (mem' := pm_up mem 42 (((256 * x1) + x2).toNatClampNeg) 100000000) hS hC 4 rfl ?_
    refine ex_grd (b := pm_inb ((256 * x1) + x2) 1280) (pc' := 114) (ls' := [.ref 33, .int x1, .int x2, .int ((256 * x1) + x2), d4, d5, d6]) (st' := []) (mem' := pm_up (pm_up mem 42 (((256 * x1) + x2).toNatClampNeg) 100000000) 43 (((256 * x1) + x2).toNatClampNeg) (-1)) hS hC rfl k.1 ?_
    replace k := k.2
    refine ex_many (pc' := 123) (ls' := [.ref 33, .int x1, .int x2, .int ((256 * x1) + x2), .int (x2 &&& (-x2)), .int x2, d6]) (st' := []) (mem' := pm_up (pm_up mem 42 (((256 * x1) + x2).toNatClampNeg) 100000000) 43 (((256 * x1) + x2).toNatClampNeg) (-1)) hS hC 7 rfl ?_
    exact k

set_option maxRecDepth 20000 in
theorem bk_X10_findBills_123 {ro : pm_RO} {Q : Option Value → pm_M → Prop} {mem : pm_M} {x1 x2 x3 x4 x5 : Int32} {d6 : Value} (k : (x5 ≤ 0 → pm_Ex ro m_X10_findBills 83 [.ref 33, .int x1, .int (x2 + 1), .int x3, .int x4, .int x5, d6] [] mem Q) ∧ (¬ (x5 ≤ 0) → ((x5 &&& x4) = 0 → pm_Ex ro m_X10_findBills 123 [.ref 33, .int x1, .int x2, .int x3, .int x4, .int ((x5 - 1) &&& x2), .int ((256 * (x1 - 1)) + (x2 &&& (x5 ^^^ (-1))))] [] mem Q) ∧ (¬ ((x5 &&& x4) = 0) → (pm_inb ((256 * (x1 - 1)) + (x2 &&& (x5 ^^^ (-1)))) 1280 = true) ∧ (((mem 43 (((256 * (x1 - 1)) + (x2 &&& (x5 ^^^ (-1)))).toNatClampNeg)) < 0 → pm_Ex ro m_X10_findBills 123 [.ref 33, .int x1, .int x2, .int x3, .int x4, .int ((x5 - 1) &&& x2), .int ((256 * (x1 - 1)) + (x2 &&& (x5 ^^^ (-1))))] [] mem Q) ∧ (¬ ((mem 43 (((256 * (x1 - 1)) + (x2 &&& (x5 ^^^ (-1)))).toNatClampNeg)) < 0) → (pm_inb x5 256 = true) ∧ ((pm_inb ((256 * (x1 - 1)) + (x2 &&& (x5 ^^^ (-1)))) 1280 = true) ∧ ((pm_inb x3 1280 = true) ∧ (((mem 42 x3.toNatClampNeg) ≤ ((mem 44 x5.toNatClampNeg) + (mem 42 (((256 * (x1 - 1)) + (x2 &&& (x5 ^^^ (-1)))).toNatClampNeg))) → (pm_inb x3 1280 = true) ∧ ((pm_inb x3 1280 = true) ∧ ((pm_inb x5 256 = true) ∧ ((pm_inb ((256 * (x1 - 1)) + (x2 &&& (x5 ^^^ (-1)))) 1280 = true) ∧ ((pm_inb x3 1280 = true) ∧ ((((mem 44 x5.toNatClampNeg) + (mem 43 (((256 * (x1 - 1)) + (x2 &&& (x5 ^^^ (-1)))).toNatClampNeg))) ≤ (mem 43 x3.toNatClampNeg) → (pm_inb x3 1280 = true) ∧ ((pm_inb x3 1280 = true) ∧ (pm_Ex ro m_X10_findBills 123 [.ref 33, .int x1, .int x2, .int x3, .int x4, .int ((x5 - 1) &&& x2), .int ((256 * (x1 - 1)) + (x2 &&& (x5 ^^^ (-1))))] [] (pm_up (pm_up mem 42 x3.toNatClampNeg (mem 42 x3.toNatClampNeg)) 43 x3.toNatClampNeg (mem 43 x3.toNatClampNeg)) Q))) ∧ (¬ (((mem 44 x5.toNatClampNeg) + (mem 43 (((256 * (x1 - 1)) + (x2 &&& (x5 ^^^ (-1)))).toNatClampNeg))) ≤ (mem 43 x3.toNatClampNeg)) → (pm_inb x5 256 = true) ∧ ((pm_inb ((256 * (x1 - 1)) + (x2 &&& (x5 ^^^ (-1)))) 1280 = true) ∧ ((pm_inb x3 1280 = true) ∧ (pm_Ex ro m_X10_findBills 123 [.ref 33, .int x1, .int x2, .int x3, .int x4, .int ((x5 - 1) &&& x2), .int ((256 * (x1 - 1)) + (x2 &&& (x5 ^^^ (-1))))] [] (pm_up (pm_up mem 42 x3.toNatClampNeg (mem 42 x3.toNatClampNeg)) 43 x3.toNatClampNeg ((mem 44 x5.toNatClampNeg) + (mem 43 (((256 * (x1 - 1)) + (x2 &&& (x5 ^^^ (-1)))).toNatClampNeg)))) Q)))))))))) ∧ (¬ ((mem 42 x3.toNatClampNeg) ≤ ((mem 44 x5.toNatClampNeg) + (mem 42 (((256 * (x1 - 1)) + (x2 &&& (x5 ^^^ (-1)))).toNatClampNeg)))) → (pm_inb x5 256 = true) ∧ ((pm_inb ((256 * (x1 - 1)) + (x2 &&& (x5 ^^^ (-1)))) 1280 = true) ∧ ((pm_inb x3 1280 = true) ∧ ((pm_inb x5 256 = true) ∧ ((pm_inb ((256 * (x1 - 1)) + (x2 &&& (x5 ^^^ (-1)))) 1280 = true) ∧ ((pm_inb x3 1280 = true) ∧ ((((mem 44 x5.toNatClampNeg) + (mem 43 (((256 * (x1 - 1)) + (x2 &&& (x5 ^^^ (-1)))).toNatClampNeg))) ≤ (mem 43 x3.toNatClampNeg) → (pm_inb x3 1280 = true) ∧ ((pm_inb x3 1280 = true) ∧ (pm_Ex ro m_X10_findBills 123 [.ref 33, .int x1, .int x2, .int x3, .int x4, .int ((x5 - 1) &&& x2), .int ((256 * (x1 - 1)) + (x2 &&& (x5 ^^^ (-1))))] [] (pm_up (pm_up mem 42 x3.toNatClampNeg ((mem 44 x5.toNatClampNeg) + (mem 42 (((256 * (x1 - 1)) + (x2 &&& (x5 ^^^ (-1)))).toNatClampNeg)))) 43 x3.toNatClampNeg (mem 43 x3.toNatClampNeg)) Q))) ∧ (¬ (((mem 44 x5.toNatClampNeg) + (mem 43 (((256 * (x1 - 1)) + (x2 &&& (x5 ^^^ (-1)))).toNatClampNeg))) ≤ (mem 43 x3.toNatClampNeg)) → (pm_inb x5 256 = true) ∧ ((pm_inb ((256 * (x1 - 1)) + (x2 &&& (x5 ^^^ (-1)))) 1280 = true) ∧ ((pm_inb x3 1280 = true) ∧ (pm_Ex ro m_X10_findBills 123 [.ref 33, .int x1, .int x2, .int x3, .int x4, .int ((x5 - 1) &&& x2), .int ((256 * (x1 - 1)) + (x2 &&& (x5 ^^^ (-1))))] [] (pm_up (pm_up mem 42 x3.toNatClampNeg ((mem 44 x5.toNatClampNeg) + (mem 42 (((256 * (x1 - 1)) + (x2 &&& (x5 ^^^ (-1)))).toNatClampNeg)))) 43 x3.toNatClampNeg ((mem 44 x5.toNatClampNeg) + (mem 43 (((256 * (x1 - 1)) + (x2 &&& (x5 ^^^ (-1)))).toNatClampNeg)))) Q))))))))))))))))))) : pm_Ex ro m_X10_findBills 123 [.ref 33, .int x1, .int x2, .int x3, .int x4, .int x5, d6] [] mem Q := by
  have hS : pm_sig[m_X10_findBills]? = some _ := rfl
  have hC : pm_cod[m_X10_findBills]? = some _ := rfl
  refine ex_many (pc' := 125) (ls' := [.ref 33, .int x1, .int x2, .int x3, .int x4, .int x5, d6]) (st' := [.int x5]) (mem' := mem) hS hC 1 rfl ?_
  refine ex_br (P := x5 ≤ 0) (a := 281) (b := 128) (ls' := [.ref 33, .int x1, .int x2, .int x3, .int x4, .int x5, d6]) (st' := []) (mem' := mem) hS hC rfl (fun h => ?_) (fun h => ?_)
  · replace k := k.1 (h)
    refine ex_many (pc' := 83) (ls' := [.ref 33, .int x1, .int (x2 + 1), .int x3, .int x4, .int x5, d6]) (st' := []) (mem' := mem) hS hC 2 rfl ?_
    exact k
  · replace k := k.2 (h)
    refine ex_many (pc' := 149) (ls' := [.ref 33, .int x1, .int x2, .int x3, .int x4, .int x5, .int ((256 * (x1 - 1)) + (x2 &&& (x5 ^^^ (-1))))]) (st' := [.int (x5 &&& x4)]) (mem' := mem) hS hC 15 rfl ?_
    refine ex_br (P := (x5 &&& x4) = 0) (a := 270) (b := 152) (ls' := [.ref 33, .int x1, .int x2, .int x3, .int x4, .int x5, .int ((256 * (x1 - 1)) + (x2 &&& (x5 ^^^ (-1))))]) (st' := []) (mem' := mem) hS hC rfl (fun h => ?_) (fun h => ?_)
    · replace k := k.1 (h)
      refine ex_many (pc' := 123) (ls' := [.ref 33, .int x1, .int x2, .int x3, .int x4, .int ((x5 - 1) &&& x2), .int ((256 * (x1 - 1)) + (x2 &&& (x5 ^^^ (-1))))]) (st' := []) (mem' := mem) hS hC 7 rfl ?_
      exact k
    · replace k := k.2 (h)
      refine ex_many (pc' := 158) (ls' := [.ref 33, .int x1, .int x2, .int x3, .int x4, .int x5, .int ((256 * (x1 - 1)) + (x2 &&& (x5 ^^^ (-1))))]) (st' := [.int ((256 * (x1 - 1)) + (x2 &&& (x5 ^^^ (-1)))), .ref 43]) (mem' := mem) hS hC 3 rfl ?_
      refine ex_grd (b := pm_inb ((256 * (x1 - 1)) + (x2 &&& (x5 ^^^ (-1)))) 1280) (pc' := 159) (ls' := [.ref 33, .int x1, .int x2, .int x3, .int x4, .int x5, .int ((256 * (x1 - 1)) + (x2 &&& (x5 ^^^ (-1))))]) (st' := [.int (mem 43 (((256 * (x1 - 1)) + (x2 &&& (x5 ^^^ (-1)))).toNatClampNeg))]) (mem' := mem) hS hC rfl k.1 ?_
      replace k := k.2
      refine ex_br (P := (mem 43 (((256 * (x1 - 1)) + (x2 &&& (x5 ^^^ (-1)))).toNatClampNeg)) < 0) (a := 270) (b := 162) (ls' := [.ref 33, .int x1, .int x2, .int x3, .int x4, .int x5, .int ((256 * (x1 - 1)) + (x2 &&& (x5 ^^^ (-1))))]) (st' := []) (mem' := mem) hS hC rfl (fun h => ?_) (fun h => ?_)
      · replace k := k.1 (h)
        refine ex_many (pc' := 123) (ls' := [.ref 33, .int x1, .int x2, .int x3, .int x4, .int ((x5 - 1) &&& x2), .int ((256 * (x1 - 1)) + (x2 &&& (x5 ^^^ (-1))))]) (st' := []) (mem' := mem) hS hC 7 rfl ?_
        exact k
      · replace k := k.2 (h)
        refine ex_many (pc' := 173) (ls' := [.ref 33, .int x1, .int x2, .int x3, .int x4, .int x5, .int ((256 * (x1 - 1)) + (x2 &&& (x5 ^^^ (-1))))]) (st' := [.int x5, .ref 44, .int x3, .ref 42]) (mem' := mem) hS hC 6 rfl ?_
        refine ex_grd (b := pm_inb x5 256) (pc' := 174) (ls' := [.ref 33, .int x1, .int x2, .int x3, .int x4, .int x5, .int ((256 * (x1 - 1)) + (x2 &&& (x5 ^^^ (-1))))]) (st' := [.int (mem 44 x5.toNatClampNeg), .int x3, .ref 42]) (mem' := mem) hS hC rfl k.1 ?_
        replace k := k.2
        refine ex_many (pc' := 180) (ls' := [.ref 33, .int x1, .int x2, .int x3, .int x4, .int x5, .int ((256 * (x1 - 1)) + (x2 &&& (x5 ^^^ (-1))))]) (st' := [.int ((256 * (x1 - 1)) + (x2 &&& (x5 ^^^ (-1)))), .ref 42, .int (mem 44 x5.toNatClampNeg), .int x3, .ref 42]) (mem' := mem) hS hC 3 rfl ?_
        refine ex_grd (b := pm_inb ((256 * (x1 - 1)) + (x2 &&& (x5 ^^^ (-1)))) 1280) (pc' := 181) (ls' := [.ref 33, .int x1, .int x2, .int x3, .int x4, .int x5, .int ((256 * (x1 - 1)) + (x2 &&& (x5 ^^^ (-1))))]) (st' := [.int (mem 42 (((256 * (x1 - 1)) + (x2 &&& (x5 ^^^ (-1)))).toNatClampNeg)), .int (mem 44 x5.toNatClampNeg), .int x3, .ref 42]) (mem' := mem) hS hC rfl k.1 ?_
        replace k := k.2
        refine ex_many (pc' := 187) (ls' := [.ref 33, .int x1, .int x2, .int x3, .int x4, .int x5, .int ((256 * (x1 - 1)) + (x2 &&& (x5 ^^^ (-1))))]) (st' := [.int x3, .ref 42, .int ((mem 44 x5.toNatClampNeg) + (mem 42 (((256 * (x1 - 1)) + (x2 &&& (x5 ^^^ (-1)))).toNatClampNeg))), .int x3, .ref 42]) (mem' := mem) hS hC 4 rfl ?_
        refine ex_grd (b := pm_inb x3 1280) (pc' := 188) (ls' := [.ref 33, .int x1, .int x2, .int x3, .int x4, .int x5, .int ((256 * (x1 - 1)) + (x2 &&& (x5 ^^^ (-1))))]) (st' := [.int (mem 42 x3.toNatClampNeg), .int ((mem 44 x5.toNatClampNeg) + (mem 42 (((256 * (x1 - 1)) + (x2 &&& (x5 ^^^ (-1)))).toNatClampNeg))), .int x3, .ref 42]) (mem' := mem) hS hC rfl k.1 ?_
        replace k := k.2
        refine ex_br (P := (mem 42 x3.toNatClampNeg) ≤ ((mem 44 x5.toNatClampNeg) + (mem 42 (((256 * (x1 - 1)) + (x2 &&& (x5 ^^^ (-1)))).toNatClampNeg)))) (a := 209) (b := 191) (ls' := [.ref 33, .int x1, .int x2, .int x3, .int x4, .int x5, .int ((256 * (x1 - 1)) + (x2 &&& (x5 ^^^ (-1))))]) (st' := [.int x3, .ref 42]) (mem' := mem) hS hC rfl (fun h => ?_) (fun h => ?_)
        · replace k := k.1 (h)
          refine ex_many (pc' := 214) (ls' := [.ref 33, .int x1, .int x2, .int x3, .int x4, .int x5, .int ((256 * (x1 - 1)) + (x2 &&& (x5 ^^^ (-1))))]) (st' := [.int x3, .ref 42, .int x3, .ref 42]) (mem' := mem) hS hC 3 rfl ?_
          refine ex_grd (b := pm_inb x3 1280) (pc' := 215) (ls' := [.ref 33, .int x1, .int x2, .int x3, .int x4, .int x5, .int ((256 * (x1 - 1)) + (x2 &&& (x5 ^^^ (-1))))]) (st' := [.int (mem 42 x3.toNatClampNeg), .int x3, .ref 42]) (mem' := mem) hS hC rfl k.1 ?_
          replace k := k.2
          refine ex_grd (b := pm_inb x3 1280) (pc' := 216) (ls' := [.ref 33, .int x1, .int x2, .int x3, .int x4, .int x5, .int ((256 * (x1 - 1)) + (x2 &&& (x5 ^^^ (-1))))]) (st' := []) (mem' := pm_up mem 42 x3.toNatClampNeg (mem 42 x3.toNatClampNeg)) hS hC rfl k.1 ?_
          replace k := k.2
          refine ex_many (pc' := 227) (ls' := [.ref 33, .int x1, .int x2, .int x3, .int x4, .int x5, .int ((256 * (x1 - 1)) + (x2 &&& (x5 ^^^ (-1))))]) (st' := [.int x5, .ref 44, .int x3, .ref 43]) (mem' := pm_up mem 42 x3.toNatClampNeg (mem 42 x3.toNatClampNeg)) hS hC 6 rfl ?_
          refine ex_grd (b := pm_inb x5 256) (pc' := 228) (ls' := [.ref 33, .int x1, .int x2, .int x3, .int x4, .int x5, .int ((256 * (x1 - 1)) + (x2 &&& (x5 ^^^ (-1))))]) (st' := [.int (mem 44 x5.toNatClampNeg), .int x3, .ref 43]) (mem' := pm_up mem 42 x3.toNatClampNeg (mem 42 x3.toNatClampNeg)) hS hC rfl k.1 ?_
          replace k := k.2
          refine ex_many (pc' := 234) (ls' := [.ref 33, .int x1, .int x2, .int x3, .int x4, .int x5, .int ((256 * (x1 - 1)) + (x2 &&& (x5 ^^^ (-1))))]) (st' := [.int ((256 * (x1 - 1)) + (x2 &&& (x5 ^^^ (-1)))), .ref 43, .int (mem 44 x5.toNatClampNeg), .int x3, .ref 43]) (mem' := pm_up mem 42 x3.toNatClampNeg (mem 42 x3.toNatClampNeg)) hS hC 3 rfl ?_
          refine ex_grd (b := pm_inb ((256 * (x1 - 1)) + (x2 &&& (x5 ^^^ (-1)))) 1280) (pc' := 235) (ls' := [.ref 33, .int x1, .int x2, .int x3, .int x4, .int x5, .int ((256 * (x1 - 1)) + (x2 &&& (x5 ^^^ (-1))))]) (st' := [.int (mem 43 (((256 * (x1 - 1)) + (x2 &&& (x5 ^^^ (-1)))).toNatClampNeg)), .int (mem 44 x5.toNatClampNeg), .int x3, .ref 43]) (mem' := pm_up mem 42 x3.toNatClampNeg (mem 42 x3.toNatClampNeg)) hS hC rfl k.1 ?_
          replace k := k.2
          refine ex_many (pc' := 241) (ls' := [.ref 33, .int x1, .int x2, .int x3, .int x4, .int x5, .int ((256 * (x1 - 1)) + (x2 &&& (x5 ^^^ (-1))))]) (st' := [.int x3, .ref 43, .int ((mem 44 x5.toNatClampNeg) + (mem 43 (((256 * (x1 - 1)) + (x2 &&& (x5 ^^^ (-1)))).toNatClampNeg))), .int x3, .ref 43]) (mem' := pm_up mem 42 x3.toNatClampNeg (mem 42 x3.toNatClampNeg)) hS hC 4 rfl ?_
          refine ex_grd (b := pm_inb x3 1280) (pc' := 242) (ls' := [.ref 33, .int x1, .int x2, .int x3, .int x4, .int x5, .int ((256 * (x1 - 1)) + (x2 &&& (x5 ^^^ (-1))))]) (st' := [.int (mem 43 x3.toNatClampNeg), .int ((mem 44 x5.toNatClampNeg) + (mem 43 (((256 * (x1 - 1)) + (x2 &&& (x5 ^^^ (-1)))).toNatClampNeg))), .int x3, .ref 43]) (mem' := pm_up mem 42 x3.toNatClampNeg (mem 42 x3.toNatClampNeg)) hS hC rfl k.1 ?_
          replace k := k.2
          refine ex_br (P := ((mem 44 x5.toNatClampNeg) + (mem 43 (((256 * (x1 - 1)) + (x2 &&& (x5 ^^^ (-1)))).toNatClampNeg))) ≤ (mem 43 x3.toNatClampNeg)) (a := 263) (b := 245) (ls' := [.ref 33, .int x1, .int x2, .int x3, .int x4, .int x5, .int ((256 * (x1 - 1)) + (x2 &&& (x5 ^^^ (-1))))]) (st' := [.int x3, .ref 43]) (mem' := pm_up mem 42 x3.toNatClampNeg (mem 42 x3.toNatClampNeg)) hS hC rfl (fun h => ?_) (fun h => ?_)
          · replace k := k.1 (h)
            refine ex_many (pc' := 268) (ls' := [.ref 33, .int x1, .int x2, .int x3, .int x4, .int x5, .int ((256 * (x1 - 1)) + (x2 &&& (x5 ^^^ (-1))))]) (st' := [.int x3, .ref 43, .int x3, .ref 43]) (mem' := pm_up mem 42 x3.toNatClampNeg (mem 42 x3.toNatClampNeg)) hS hC 3 rfl ?_
            refine ex_grd (b := pm_inb x3 1280) (pc' := 269) (ls' := [.ref 33, .int x1, .int x2, .int x3, .int x4, .int x5, .int ((256 * (x1 - 1)) + (x2 &&& (x5 ^^^ (-1))))]) (st' := [.int (mem 43 x3.toNatClampNeg), .int x3, .ref 43]) (mem' := pm_up mem 42 x3.toNatClampNeg (mem 42 x3.toNatClampNeg)) hS hC rfl k.1 ?_
            replace k := k.2
            refine ex_grd (b := pm_inb x3 1280) (pc' := 270) (ls' := [.ref 33, .int x1, .int x2, .int x3, .int x4, .int x5, .int ((256 * (x1 - 1)) + (x2 &&& (x5 ^^^ (-1))))]) (st' := []) (mem' := pm_up (pm_up mem 42 x3.toNatClampNeg (mem 42 x3.toNatClampNeg)) 43 x3.toNatClampNeg (mem 43 x3.toNatClampNeg)) hS hC rfl k.1 ?_
            replace k := k.2
            refine ex_many (pc' := 123) (ls' := [.ref 33, .int x1, .int x2, .int x3, .int x4, .int ((x5 - 1) &&& x2), .int ((256 * (x1 - 1)) + (x2 &&& (x5 ^^^ (-1))))]) (st' := []) (mem' := pm_up (pm_up mem 42 x3.toNatClampNeg (mem 42 x3.toNatClampNeg)) 43 x3.toNatClampNeg (mem 43 x3.toNatClampNeg)) hS hC 7 rfl ?_
            exact k
          · replace k := k.2 (h)
            refine ex_many (pc' := 251) (ls' := [.ref 33, .int x1, .int x2, .int x3, .int x4, .int x5, .int ((256 * (x1 - 1)) + (x2 &&& (x5 ^^^ (-1))))]) (st' := [.int x5, .ref 44, .int x3, .ref 43]) (mem' := pm_up mem 42 x3.toNatClampNeg (mem 42 x3.toNatClampNeg)) hS hC 3 rfl ?_
            refine ex_grd (b := pm_inb x5 256) (pc' := 252) (ls' := [.ref 33, .int x1, .int x2, .int x3, .int x4, .int x5, .int ((256 * (x1 - 1)) + (x2 &&& (x5 ^^^ (-1))))]) (st' := [.int (mem 44 x5.toNatClampNeg), .int x3, .ref 43]) (mem' := pm_up mem 42 x3.toNatClampNeg (mem 42 x3.toNatClampNeg)) hS hC rfl k.1 ?_
            replace k := k.2
            refine ex_many (pc' := 258) (ls' := [.ref 33, .int x1, .int x2, .int x3, .int x4, .int x5, .int ((256 * (x1 - 1)) + (x2 &&& (x5 ^^^ (-1))))]) (st' := [.int ((256 * (x1 - 1)) + (x2 &&& (x5 ^^^ (-1)))), .ref 43, .int (mem 44 x5.toNatClampNeg), .int x3, .ref 43]) (mem' := pm_up mem 42 x3.toNatClampNeg (mem 42 x3.toNatClampNeg)) hS hC 3 rfl ?_
            refine ex_grd (b := pm_inb ((256 * (x1 - 1)) + (x2 &&& (x5 ^^^ (-1)))) 1280) (pc' := 259) (ls' := [.ref 33, .int x1, .int x2, .int x3, .int x4, .int x5, .int ((256 * (x1 - 1)) + (x2 &&& (x5 ^^^ (-1))))]) (st' := [.int (mem 43 (((256 * (x1 - 1)) + (x2 &&& (x5 ^^^ (-1)))).toNatClampNeg)), .int (mem 44 x5.toNatClampNeg), .int x3, .ref 43]) (mem' := pm_up mem 42 x3.toNatClampNeg (mem 42 x3.toNatClampNeg)) hS hC rfl k.1 ?_
            replace k := k.2
            refine ex_many (pc' := 269) (ls' := [.ref 33, .int x1, .int x2, .int x3, .int x4, .int x5, .int ((256 * (x1 - 1)) + (x2 &&& (x5 ^^^ (-1))))]) (st' := [.int ((mem 44 x5.toNatClampNeg) + (mem 43 (((256 * (x1 - 1)) + (x2 &&& (x5 ^^^ (-1)))).toNatClampNeg))), .int x3, .ref 43]) (mem' := pm_up mem 42 x3.toNatClampNeg (mem 42 x3.toNatClampNeg)) hS hC 2 rfl ?_
            refine ex_grd (b := pm_inb x3 1280) (pc' := 270) (ls' := [.ref 33, .int x1, .int x2, .int x3, .int x4, .int x5, .int ((256 * (x1 - 1)) + (x2 &&& (x5 ^^^ (-1))))]) (st' := []) (mem' := pm_up (pm_up mem 42 x3.toNatClampNeg (mem 42 x3.toNatClampNeg)) 43 x3.toNatClampNeg ((mem 44 x5.toNatClampNeg) + (mem 43 (((256 * (x1 - 1)) + (x2 &&& (x5 ^^^ (-1)))).toNatClampNeg)))) hS hC rfl k.1 ?_
            replace k := k.2
            refine ex_many (pc' := 123) (ls' := [.ref 33, .int x1, .int x2, .int x3, .int x4, .int ((x5 - 1) &&& x2), .int ((256 * (x1 - 1)) + (x2 &&& (x5 ^^^ (-1))))]) (st' := []) (mem' := pm_up (pm_up mem 42 x3.toNatClampNeg (mem 42 x3.toNatClampNeg)) 43 x3.toNatClampNeg ((mem 44 x5.toNatClampNeg) + (mem 43 (((256 * (x1 - 1)) + (x2 &&& (x5 ^^^ (-1)))).toNatClampNeg)))) hS hC 7 rfl ?_
            exact k
        · replace k := k.2 (h)
          refine ex_many (pc' := 197) (ls' := [.ref 33, .int x1, .int x2, .int x3, .int x4, .int x5, .int ((256 * (x1 - 1)) + (x2 &&& (x5 ^^^ (-1))))]) (st' := [.int x5, .ref 44, .int x3, .ref 42]) (mem' := mem) hS hC 3 rfl ?_
          refine ex_grd (b := pm_inb x5 256) (pc' := 198) (ls' := [.ref 33, .int x1, .int x2, .int x3, .int x4, .int x5, .int ((256 * (x1 - 1)) + (x2 &&& (x5 ^^^ (-1))))]) (st' := [.int (mem 44 x5.toNatClampNeg), .int x3, .ref 42]) (mem' := mem) hS hC rfl k.1 ?_
          replace k := k.2
          refine ex_many (pc' := 204) (ls' := [.ref 33, .int x1, .int x2, .int x3, .int x4, .int x5, .int ((256 * (x1 - 1)) + (x2 &&& (x5 ^^^ (-1))))]) (st' := [.int ((256 * (x1 - 1)) + (x2 &&& (x5 ^^^ (-1)))), .ref 42, .int (mem 44 x5.toNatClampNeg), .int x3, .ref 42]) (mem' := mem) hS hC 3 rfl ?_
          refine ex_grd (b := pm_inb ((256 * (x1 - 1)) + (x2 &&& (x5 ^^^ (-1)))) 1280) (pc' := 205) (ls' := [.ref 33, .int x1, .int x2, .int x3, .int x4, .int x5, .int ((256 * (x1 - 1)) + (x2 &&& (x5 ^^^ (-1))))]) (st' := [.int (mem 42 (((256 * (x1 - 1)) + (x2 &&& (x5 ^^^ (-1)))).toNatClampNeg)), .int (mem 44 x5.toNatClampNeg), .int x3, .ref 42]) (mem' := mem) hS hC rfl k.1 ?_
          replace k := k.2
          refine ex_many (pc' := 215) (ls' := [.ref 33, .int x1, .int x2, .int x3, .int x4, .int x5, .int ((256 * (x1 - 1)) + (x2 &&& (x5 ^^^ (-1))))]) (st' := [.int ((mem 44 x5.toNatClampNeg) + (mem 42 (((256 * (x1 - 1)) + (x2 &&& (x5 ^^^ (-1)))).toNatClampNeg))), .int x3, .ref 42]) (mem' := mem) hS hC 2 rfl ?_
          refine ex_grd (b := pm_inb x3 1280) (pc' := 216) (ls' := [.ref 33, .int x1, .int x2, .int x3, .int x4, .int x5, .int ((256 * (x1 - 1)) + (x2 &&& (x5 ^^^ (-1))))]) (st' := []) (mem' := pm_up mem 42 x3.toNatClampNeg ((mem 44 x5.toNatClampNeg) + (mem 42 (((256 * (x1 - 1)) + (x2 &&& (x5 ^^^ (-1)))).toNatClampNeg)))) hS hC rfl k.1 ?_
          replace k := k.2
          refine ex_many (pc' := 227) (ls' := [.ref 33, .int x1, .int x2, .int x3, .int x4, .int x5, .int ((256 * (x1 - 1)) + (x2 &&& (x5 ^^^ (-1))))]) (st' := [.int x5, .ref 44, .int x3, .ref 43]) (mem' := pm_up mem 42 x3.toNatClampNeg ((mem 44 x5.toNatClampNeg) + (mem 42 (((256 * (x1 - 1)) + (x2 &&& (x5 ^^^ (-1)))).toNatClampNeg)))) hS hC 6 rfl ?_
          refine ex_grd (b := pm_inb x5 256) (pc' := 228) (ls' := [.ref 33, .int x1, .int x2, .int x3, .int x4, .int x5, .int ((256 * (x1 - 1)) + (x2 &&& (x5 ^^^ (-1))))]) (st' := [.int (mem 44 x5.toNatClampNeg), .int x3, .ref 43]) (mem' := pm_up mem 42 x3.toNatClampNeg ((mem 44 x5.toNatClampNeg) + (mem 42 (((256 * (x1 - 1)) + (x2 &&& (x5 ^^^ (-1)))).toNatClampNeg)))) hS hC rfl k.1 ?_
          replace k := k.2
          refine ex_many (pc' := 234) (ls' := [.ref 33, .int x1, .int x2, .int x3, .int x4, .int x5, .int ((256 * (x1 - 1)) + (x2 &&& (x5 ^^^ (-1))))]) (st' := [.int ((256 * (x1 - 1)) + (x2 &&& (x5 ^^^ (-1)))), .ref 43, .int (mem 44 x5.toNatClampNeg), .int x3, .ref 43]) (mem' := pm_up mem 42 x3.toNatClampNeg ((mem 44 x5.toNatClampNeg) + (mem 42 (((256 * (x1 - 1)) + (x2 &&& (x5 ^^^ (-1)))).toNatClampNeg)))) hS hC 3 rfl ?_
          refine ex_grd (b := pm_inb ((256 * (x1 - 1)) + (x2 &&& (x5 ^^^ (-1)))) 1280) (pc' := 235) (ls' := [.ref 33, .int x1, .int x2, .int x3, .int x4, .int x5, .int ((256 * (x1 - 1)) + (x2 &&& (x5 ^^^ (-1))))]) (st' := [.int (mem 43 (((256 * (x1 - 1)) + (x2 &&& (x5 ^^^ (-1)))).toNatClampNeg)), .int (mem 44 x5.toNatClampNeg), .int x3, .ref 43]) (mem' := pm_up mem 42 x3.toNatClampNeg ((mem 44 x5.toNatClampNeg) + (mem 42 (((256 * (x1 - 1)) + (x2 &&& (x5 ^^^ (-1)))).toNatClampNeg)))) hS hC rfl k.1 ?_
          replace k := k.2
          refine ex_many (pc' := 241) (ls' := [.ref 33, .int x1, .int x2, .int x3, .int x4, .int x5, .int ((256 * (x1 - 1)) + (x2 &&& (x5 ^^^ (-1))))]) (st' := [.int x3, .ref 43, .int ((mem 44 x5.toNatClampNeg) + (mem 43 (((256 * (x1 - 1)) + (x2 &&& (x5 ^^^ (-1)))).toNatClampNeg))), .int x3, .ref 43]) (mem' := pm_up mem 42 x3.toNatClampNeg ((mem 44 x5.toNatClampNeg) + (mem 42 (((256 * (x1 - 1)) + (x2 &&& (x5 ^^^ (-1)))).toNatClampNeg)))) hS hC 4 rfl ?_
          refine ex_grd (b := pm_inb x3 1280) (pc' := 242) (ls' := [.ref 33, .int x1, .int x2, .int x3, .int x4, .int x5, .int ((256 * (x1 - 1)) + (x2 &&& (x5 ^^^ (-1))))]) (st' := [.int (mem 43 x3.toNatClampNeg), .int ((mem 44 x5.toNatClampNeg) + (mem 43 (((256 * (x1 - 1)) + (x2 &&& (x5 ^^^ (-1)))).toNatClampNeg))), .int x3, .ref 43]) (mem' := pm_up mem 42 x3.toNatClampNeg ((mem 44 x5.toNatClampNeg) + (mem 42 (((256 * (x1 - 1)) + (x2 &&& (x5 ^^^ (-1)))).toNatClampNeg)))) hS hC rfl k.1 ?_
          replace k := k.2
          refine ex_br (P := ((mem 44 x5.toNatClampNeg) + (mem 43 (((256 * (x1 - 1)) + (x2 &&& (x5 ^^^ (-1)))).toNatClampNeg))) ≤ (mem 43 x3.toNatClampNeg)) (a := 263) (b := 245) (ls' := [.ref 33, .int x1, .int x2, .int x3, .int x4, .int x5, .int ((256 * (x1 - 1)) + (x2 &&& (x5 ^^^ (-1))))]) (st' := [.int x3, .ref 43]) (mem' := pm_up mem 42 x3.toNatClampNeg ((mem 44 x5.toNatClampNeg) + (mem 42 (((256 * (x1 - 1)) + (x2 &&& (x5 ^^^ (-1)))).toNatClampNeg)))) hS hC rfl (fun h => ?_) (fun h => ?_)
          · replace k := k.1 (h)
            refine ex_many (pc' := 268) (ls' := [.ref 33, .int x1, .int x2, .int x3, .int x4, .int x5, .int ((256 * (x1 - 1)) + (x2 &&& (x5 ^^^ (-1))))]) (st' := [.int x3, .ref 43, .int x3, .ref 43]) (mem' := pm_up mem 42 x3.toNatClampNeg ((mem 44 x5.toNatClampNeg) + (mem 42 (((256 * (x1 - 1)) + (x2 &&& (x5 ^^^ (-1)))).toNatClampNeg)))) hS hC 3 rfl ?_
            refine ex_grd (b := pm_inb x3 1280) (pc' := 269) (ls' := [.ref 33, .int x1, .int x2, .int x3, .int x4, .int x5, .int ((256 * (x1 - 1)) + (x2 &&& (x5 ^^^ (-1))))]) (st' := [.int (mem 43 x3.toNatClampNeg), .int x3, .ref 43]) (mem' := pm_up mem 42 x3.toNatClampNeg ((mem 44 x5.toNatClampNeg) + (mem 42 (((256 * (x1 - 1)) + (x2 &&& (x5 ^^^ (-1)))).toNatClampNeg)))) hS hC rfl k.1 ?_
            replace k := k.2
            refine ex_grd (b := pm_inb x3 1280) (pc' := 270) (ls' := [.ref 33, .int x1, .int x2, .int x3, .int x4, .int x5, .int ((256 * (x1 - 1)) + (x2 &&& (x5 ^^^ (-1))))]) (st' := []) (mem' := pm_up (pm_up mem 42 x3.toNatClampNeg ((mem 44 x5.toNatClampNeg) + (mem 42 (((256 * (x1 - 1)) + (x2 &&& (x5 ^^^ (-1)))).toNatClampNeg)))) 43 x3.toNatClampNeg (mem 43 x3.toNatClampNeg)) hS hC rfl k.1 ?_
            replace k := k.2
            refine ex_many (pc' := 123) (ls' := [.ref 33, .int x1, .int x2, .int x3, .int x4, .int ((x5 - 1) &&& x2), .int ((256 * (x1 - 1)) + (x2 &&& (x5 ^^^ (-1))))]) (st' := []) (mem' := pm_up (pm_up mem 42 x3.toNatClampNeg ((mem 44 x5.toNatClampNeg) + (mem 42 (((256 * (x1 - 1)) + (x2 &&& (x5 ^^^ (-1)))).toNatClampNeg)))) 43 x3.toNatClampNeg (mem 43 x3.toNatClampNeg)) hS hC 7 rfl ?_
            exact k
          · replace k := k.2 (h)
            refine ex_many (pc' := 251) (ls' := [.ref 33, .int x1, .int x2, .int x3, .int x4, .int x5, .int ((256 * (x1 - 1)) + (x2 &&& (x5 ^^^ (-1))))]) (st' := [.int x5, .ref 44, .int x3, .ref 43]) (mem' := pm_up mem 42 x3.toNatClampNeg ((mem 44 x5.toNatClampNeg) + (mem 42 (((256 * (x1 - 1)) + (x2 &&& (x5 ^^^ (-1)))).toNatClampNeg)))) hS hC 3 rfl ?_
            refine ex_grd (b := pm_inb x5 256) (pc' := 252) (ls' := [.ref 33, .int x1, .int x2, .int x3, .int x4, .int x5, .int ((256 * (x1 - 1)) + (x2 &&& (x5 ^^^ (-1))))]) (st' := [.int (mem 44 x5.toNatClampNeg), .int x3, .ref 43]) (mem' := pm_up mem 42 x3.toNatClampNeg ((mem 44 x5.toNatClampNeg) + (mem 42 (((256 * (x1 - 1)) + (x2 &&& (x5 ^^^ (-1)))).toNatClampNeg)))) hS hC rfl k.1 ?_
            replace k := k.2
            refine ex_many (pc' := 258) (ls' := [.ref 33, .int x1, .int x2, .int x3, .int x4, .int x5, .int ((256 * (x1 - 1)) + (x2 &&& (x5 ^^^ (-1))))]) (st' := [.int ((256 * (x1 - 1)) + (x2 &&& (x5 ^^^ (-1)))), .ref 43, .int (mem 44 x5.toNatClampNeg), .int x3, .ref 43]) (mem' := pm_up mem 42 x3.toNatClampNeg ((mem 44 x5.toNatClampNeg) + (mem 42 (((256 * (x1 - 1)) + (x2 &&& (x5 ^^^ (-1)))).toNatClampNeg)))) hS hC 3 rfl ?_
            refine ex_grd (b := pm_inb ((256 * (x1 - 1)) + (x2 &&& (x5 ^^^ (-1)))) 1280) (pc' := 259) (ls' := [.ref 33, .int x1, .int x2, .int x3, .int x4, .int x5, .int ((256 * (x1 - 1)) + (x2 &&& (x5 ^^^ (-1))))]) (st' := [.int (mem 43 (((256 * (x1 - 1)) + (x2 &&& (x5 ^^^ (-1)))).toNatClampNeg)), .int (mem 44 x5.toNatClampNeg), .int x3, .ref 43]) (mem' := pm_up mem 42 x3.toNatClampNeg ((mem 44 x5.toNatClampNeg) + (mem 42 (((256 * (x1 - 1)) + (x2 &&& (x5 ^^^ (-1)))).toNatClampNeg)))) hS hC rfl k.1 ?_
            replace k := k.2
            refine ex_many (pc' := 269) (ls' := [.ref 33, .int x1, .int x2, .int x3, .int x4, .int x5, .int ((256 * (x1 - 1)) + (x2 &&& (x5 ^^^ (-1))))]) (st' := [.int ((mem 44 x5.toNatClampNeg) + (mem 43 (((256 * (x1 - 1)) + (x2 &&& (x5 ^^^ (-1)))).toNatClampNeg))), .int x3, .ref 43]) (mem' := pm_up mem 42 x3.toNatClampNeg ((mem 44 x5.toNatClampNeg) + (mem 42 (((256 * (x1 - 1)) + (x2 &&& (x5 ^^^ (-1)))).toNatClampNeg)))) hS hC 2 rfl ?_
            refine ex_grd (b := pm_inb x3 1280) (pc' := 270) (ls' := [.ref 33, .int x1, .int x2, .int x3, .int x4, .int x5, .int ((256 * (x1 - 1)) + (x2 &&& (x5 ^^^ (-1))))]) (st' := []) (mem' := pm_up (pm_up mem 42 x3.toNatClampNeg ((mem 44 x5.toNatClampNeg) + (mem 42 (((256 * (x1 - 1)) + (x2 &&& (x5 ^^^ (-1)))).toNatClampNeg)))) 43 x3.toNatClampNeg ((mem 44 x5.toNatClampNeg) + (mem 43 (((256 * (x1 - 1)) + (x2 &&& (x5 ^^^ (-1)))).toNatClampNeg)))) hS hC rfl k.1 ?_
            replace k := k.2
            refine ex_many (pc' := 123) (ls' := [.ref 33, .int x1, .int x2, .int x3, .int x4, .int ((x5 - 1) &&& x2), .int ((256 * (x1 - 1)) + (x2 &&& (x5 ^^^ (-1))))]) (st' := []) (mem' := pm_up (pm_up mem 42 x3.toNatClampNeg ((mem 44 x5.toNatClampNeg) + (mem 42 (((256 * (x1 - 1)) + (x2 &&& (x5 ^^^ (-1)))).toNatClampNeg)))) 43 x3.toNatClampNeg ((mem 44 x5.toNatClampNeg) + (mem 43 (((256 * (x1 - 1)) + (x2 &&& (x5 ^^^ (-1)))).toNatClampNeg)))) hS hC 7 rfl ?_
            exact k

set_option maxRecDepth 20000 in
theorem bk_X10_findBills_21 {ro : pm_RO} {Q : Option Value → pm_M → Prop} {mem : pm_M} {x1 s0 s2 : Int32} (k : pm_Ex ro m_X10_paidFor 0 [.ref 33, .int s0, .null, .null, .null, .null] [] mem (fun v m => pm_Ex ro m_X10_findBills 24 [.ref 33, .int x1, .null, .null, .null, .null, .null] (v.toList ++ [.int s2, .ref 44]) m Q)) : pm_Ex ro m_X10_findBills 21 [.ref 33, .int x1, .null, .null, .null, .null, .null] [.int s0, .ref 33, .int s2, .ref 44] mem Q := by
  have hS : pm_sig[m_X10_findBills]? = some _ := rfl
  have hC : pm_cod[m_X10_findBills]? = some _ := rfl
  refine ex_call (y' := m_X10_paidFor) (rest := [.int s2, .ref 44]) (ent := [.ref 33, .int s0, .null, .null, .null, .null]) hS hC rfl rfl rfl rfl rfl rfl ?_
  exact k

set_option maxRecDepth 20000 in
theorem bk_X10_findBills_24 {ro : pm_RO} {Q : Option Value → pm_M → Prop} {mem : pm_M} {x1 s0 s1 : Int32} (k : (pm_inb s1 256 = true) ∧ ((pm_inb x1 1280 = true) ∧ ((pm_inb x1 1280 = true) ∧ (pm_Ex ro m_X10_findBills 2 [.ref 33, .int (x1 + 1), .null, .null, .null, .null, .null] [] (pm_up (pm_up (pm_up mem 44 s1.toNatClampNeg (s0 + (mem 41 2))) 42 x1.toNatClampNeg (if ¬ x1 = 0 then 100000000 else 0 : Int32)) 43 x1.toNatClampNeg (if ¬ x1 = 0 then -1 else 0 : Int32)) Q)))) : pm_Ex ro m_X10_findBills 24 [.ref 33, .int x1, .null, .null, .null, .null, .null] [.int s0, .int s1, .ref 44] mem Q := by
  have hS : pm_sig[m_X10_findBills]? = some _ := rfl
  have hC : pm_cod[m_X10_findBills]? = some _ := rfl
  refine ex_many (pc' := 31) (ls' := [.ref 33, .int x1, .null, .null, .null, .null, .null]) (st' := [.int (s0 + (mem 41 2)), .int s1, .ref 44]) (mem' := mem) hS hC 5 rfl ?_
  refine ex_grd (b := pm_inb s1 256) (pc' := 32) (ls' := [.ref 33, .int x1, .null, .null, .null, .null, .null]) (st' := []) (mem' := pm_up mem 44 s1.toNatClampNeg (s0 + (mem 41 2))) hS hC rfl k.1 ?_
  replace k := k.2
  refine ex_many (pc' := 38) (ls' := [.ref 33, .int x1, .null, .null, .null, .null, .null]) (st' := [.int x1, .int x1, .ref 42]) (mem' := pm_up mem 44 s1.toNatClampNeg (s0 + (mem 41 2))) hS hC 4 rfl ?_
  have kp22 : pm_Ex ro m_X10_findBills 47 [.ref 33, .int x1, .null, .null, .null, .null, .null] [.int (if ¬ x1 = 0 then 100000000 else 0 : Int32), .int x1, .ref 42] (pm_up mem 44 s1.toNatClampNeg (s0 + (mem 41 2))) Q := by
    refine ex_grd (b := pm_inb x1 1280) (pc' := 48) (ls' := [.ref 33, .int x1, .null, .null, .null, .null, .null]) (st' := []) (mem' := pm_up (pm_up mem 44 s1.toNatClampNeg (s0 + (mem 41 2))) 42 x1.toNatClampNeg (if ¬ x1 = 0 then 100000000 else 0 : Int32)) hS hC rfl k.1 ?_
    replace k := k.2
    refine ex_many (pc' := 54) (ls' := [.ref 33, .int x1, .null, .null, .null, .null, .null]) (st' := [.int x1, .int x1, .ref 43]) (mem' := pm_up (pm_up mem 44 s1.toNatClampNeg (s0 + (mem 41 2))) 42 x1.toNatClampNeg (if ¬ x1 = 0 then 100000000 else 0 : Int32)) hS hC 4 rfl ?_
    have kp21 : pm_Ex ro m_X10_findBills 62 [.ref 33, .int x1, .null, .null, .null, .null, .null] [.int (if ¬ x1 = 0 then -1 else 0 : Int32), .int x1, .ref 43] (pm_up (pm_up mem 44 s1.toNatClampNeg (s0 + (mem 41 2))) 42 x1.toNatClampNeg (if ¬ x1 = 0 then 100000000 else 0 : Int32)) Q := by
      refine ex_grd (b := pm_inb x1 1280) (pc' := 63) (ls' := [.ref 33, .int x1, .null, .null, .null, .null, .null]) (st' := []) (mem' := pm_up (pm_up (pm_up mem 44 s1.toNatClampNeg (s0 + (mem 41 2))) 42 x1.toNatClampNeg (if ¬ x1 = 0 then 100000000 else 0 : Int32)) 43 x1.toNatClampNeg (if ¬ x1 = 0 then -1 else 0 : Int32)) hS hC rfl k.1 ?_
      replace k := k.2
      refine ex_many (pc' := 2) (ls' := [.ref 33, .int (x1 + 1), .null, .null, .null, .null, .null]) (st' := []) (mem' := pm_up (pm_up (pm_up mem 44 s1.toNatClampNeg (s0 + (mem 41 2))) 42 x1.toNatClampNeg (if ¬ x1 = 0 then 100000000 else 0 : Int32)) 43 x1.toNatClampNeg (if ¬ x1 = 0 then -1 else 0 : Int32)) hS hC 2 rfl ?_
      exact k
    refine ex_br (P := ¬ x1 = 0) (a := 61) (b := 57) (ls' := [.ref 33, .int x1, .null, .null, .null, .null, .null]) (st' := [.int x1, .ref 43]) (mem' := pm_up (pm_up mem 44 s1.toNatClampNeg (s0 + (mem 41 2))) 42 x1.toNatClampNeg (if ¬ x1 = 0 then 100000000 else 0 : Int32)) hS hC rfl (fun h => ?_) (fun h => ?_)
    · have kp21a : pm_Ex ro m_X10_findBills 62 [.ref 33, .int x1, .null, .null, .null, .null, .null] [.int (-1), .int x1, .ref 43] (pm_up (pm_up mem 44 s1.toNatClampNeg (s0 + (mem 41 2))) 42 x1.toNatClampNeg (if ¬ x1 = 0 then 100000000 else 0 : Int32)) Q := pm_phi1 (f := fun z0 => pm_Ex ro m_X10_findBills 62 [.ref 33, .int x1, .null, .null, .null, .null, .null] [.int z0, .int x1, .ref 43] (pm_up (pm_up mem 44 s1.toNatClampNeg (s0 + (mem 41 2))) 42 x1.toNatClampNeg (if ¬ x1 = 0 then 100000000 else 0 : Int32)) Q) (if_pos (h)) kp21
      refine ex_many (pc' := 62) (ls' := [.ref 33, .int x1, .null, .null, .null, .null, .null]) (st' := [.int (-1), .int x1, .ref 43]) (mem' := pm_up (pm_up mem 44 s1.toNatClampNeg (s0 + (mem 41 2))) 42 x1.toNatClampNeg (if ¬ x1 = 0 then 100000000 else 0 : Int32)) hS hC 1 rfl ?_
      exact kp21a
    · have kp21b : pm_Ex ro m_X10_findBills 62 [.ref 33, .int x1, .null, .null, .null, .null, .null] [.int 0, .int x1, .ref 43] (pm_up (pm_up mem 44 s1.toNatClampNeg (s0 + (mem 41 2))) 42 x1.toNatClampNeg (if ¬ x1 = 0 then 100000000 else 0 : Int32)) Q := pm_phi1 (f := fun z0 => pm_Ex ro m_X10_findBills 62 [.ref 33, .int x1, .null, .null, .null, .null, .null] [.int z0, .int x1, .ref 43] (pm_up (pm_up mem 44 s1.toNatClampNeg (s0 + (mem 41 2))) 42 x1.toNatClampNeg (if ¬ x1 = 0 then 100000000 else 0 : Int32)) Q) (if_neg (h)) kp21
      refine ex_many (pc' := 62) (ls' := [.ref 33, .int x1, .null, .null, .null, .null, .null]) (st' := [.int 0, .int x1, .ref 43]) (mem' := pm_up (pm_up mem 44 s1.toNatClampNeg (s0 + (mem 41 2))) 42 x1.toNatClampNeg (if ¬ x1 = 0 then 100000000 else 0 : Int32)) hS hC 2 rfl ?_
      exact kp21b
  refine ex_br (P := ¬ x1 = 0) (a := 45) (b := 41) (ls' := [.ref 33, .int x1, .null, .null, .null, .null, .null]) (st' := [.int x1, .ref 42]) (mem' := pm_up mem 44 s1.toNatClampNeg (s0 + (mem 41 2))) hS hC rfl (fun h => ?_) (fun h => ?_)
  · have kp22a : pm_Ex ro m_X10_findBills 47 [.ref 33, .int x1, .null, .null, .null, .null, .null] [.int 100000000, .int x1, .ref 42] (pm_up mem 44 s1.toNatClampNeg (s0 + (mem 41 2))) Q := pm_phi1 (f := fun z0 => pm_Ex ro m_X10_findBills 47 [.ref 33, .int x1, .null, .null, .null, .null, .null] [.int z0, .int x1, .ref 42] (pm_up mem 44 s1.toNatClampNeg (s0 + (mem 41 2))) Q) (if_pos (h)) kp22
    refine ex_many (pc' := 47) (ls' := [.ref 33, .int x1, .null, .null, .null, .null, .null]) (st' := [.int 100000000, .int x1, .ref 42]) (mem' := pm_up mem 44 s1.toNatClampNeg (s0 + (mem 41 2))) hS hC 1 rfl ?_
    exact kp22a
  · have kp22b : pm_Ex ro m_X10_findBills 47 [.ref 33, .int x1, .null, .null, .null, .null, .null] [.int 0, .int x1, .ref 42] (pm_up mem 44 s1.toNatClampNeg (s0 + (mem 41 2))) Q := pm_phi1 (f := fun z0 => pm_Ex ro m_X10_findBills 47 [.ref 33, .int x1, .null, .null, .null, .null, .null] [.int z0, .int x1, .ref 42] (pm_up mem 44 s1.toNatClampNeg (s0 + (mem 41 2))) Q) (if_neg (h)) kp22
    refine ex_many (pc' := 47) (ls' := [.ref 33, .int x1, .null, .null, .null, .null, .null]) (st' := [.int 0, .int x1, .ref 42]) (mem' := pm_up mem 44 s1.toNatClampNeg (s0 + (mem 41 2))) hS hC 2 rfl ?_
    exact kp22b

set_option maxRecDepth 20000 in
theorem bk_X10_boughtOf_0 {ro : pm_RO} {Q : Option Value → pm_M → Prop} {mem : pm_M} {a1 : Int32} (k : pm_Ex ro m_X10_findBills 0 [.ref 33, .null, .null, .null, .null, .null, .null] [] mem (fun v m => pm_Ex ro m_X10_boughtOf 4 [.ref 33, .int a1, .null, .null, .null, .null, .null, .null, .null, .null] (v.toList ++ []) m Q)) : pm_Ex ro m_X10_boughtOf 0 [.ref 33, .int a1, .null, .null, .null, .null, .null, .null, .null, .null] [] mem Q := by
  have hS : pm_sig[m_X10_boughtOf]? = some _ := rfl
  have hC : pm_cod[m_X10_boughtOf]? = some _ := rfl
  refine ex_many (pc' := 1) (ls' := [.ref 33, .int a1, .null, .null, .null, .null, .null, .null, .null, .null]) (st' := [.ref 33]) (mem' := mem) hS hC 1 rfl ?_
  refine ex_call (y' := m_X10_findBills) (rest := []) (ent := [.ref 33, .null, .null, .null, .null, .null, .null]) hS hC rfl rfl rfl rfl rfl rfl ?_
  exact k

set_option maxRecDepth 20000 in
theorem bk_X10_boughtOf_18 {ro : pm_RO} {Q : Option Value → pm_M → Prop} {mem : pm_M} {x1 x2 x3 x4 x5 x6 : Int32} {d7 d8 d9 : Value} (k : ((mem 41 3) < x6 → Q (some (.int (if ¬ x1 = 0 then (if ¬ x1 = 1 then (if ¬ x1 = 2 then x5 else x4 : Int32) else x3 : Int32) else x2 : Int32))) mem) ∧ (¬ ((mem 41 3) < x6) → pm_Ex ro m_X10_boughtOf 32 [.ref 33, .int x1, .int x2, .int x3, .int x4, .int x5, .int x6, .int 0, d8, d9] [] mem Q)) : pm_Ex ro m_X10_boughtOf 18 [.ref 33, .int x1, .int x2, .int x3, .int x4, .int x5, .int x6, d7, d8, d9] [] mem Q := by
  have hS : pm_sig[m_X10_boughtOf]? = some _ := rfl
  have hC : pm_cod[m_X10_boughtOf]? = some _ := rfl
  refine ex_many (pc' := 26) (ls' := [.ref 33, .int x1, .int x2, .int x3, .int x4, .int x5, .int x6, d7, d8, d9]) (st' := [.int (mem 41 3), .int x6]) (mem' := mem) hS hC 5 rfl ?_
  refine ex_br (P := (mem 41 3) < x6) (a := 161) (b := 29) (ls' := [.ref 33, .int x1, .int x2, .int x3, .int x4, .int x5, .int x6, d7, d8, d9]) (st' := []) (mem' := mem) hS hC rfl (fun h => ?_) (fun h => ?_)
  · replace k := k.1 (h)
    refine ex_many (pc' := 162) (ls' := [.ref 33, .int x1, .int x2, .int x3, .int x4, .int x5, .int x6, d7, d8, d9]) (st' := [.int x1]) (mem' := mem) hS hC 1 rfl ?_
    have kp25 : pm_Ex ro m_X10_boughtOf 190 [.ref 33, .int x1, .int x2, .int x3, .int x4, .int x5, .int x6, d7, d8, d9] [.int (if ¬ x1 = 0 then (if ¬ x1 = 1 then (if ¬ x1 = 2 then x5 else x4 : Int32) else x3 : Int32) else x2 : Int32)] mem Q := by
      exact ex_ret (v := (some (.int (if ¬ x1 = 0 then (if ¬ x1 = 1 then (if ¬ x1 = 2 then x5 else x4 : Int32) else x3 : Int32) else x2 : Int32)))) hS hC rfl rfl rfl k
    refine ex_br (P := ¬ x1 = 0) (a := 169) (b := 165) (ls' := [.ref 33, .int x1, .int x2, .int x3, .int x4, .int x5, .int x6, d7, d8, d9]) (st' := []) (mem' := mem) hS hC rfl (fun h => ?_) (fun h => ?_)
    · have kp25a : pm_Ex ro m_X10_boughtOf 190 [.ref 33, .int x1, .int x2, .int x3, .int x4, .int x5, .int x6, d7, d8, d9] [.int (if ¬ x1 = 1 then (if ¬ x1 = 2 then x5 else x4 : Int32) else x3 : Int32)] mem Q := pm_phi1 (f := fun z0 => pm_Ex ro m_X10_boughtOf 190 [.ref 33, .int x1, .int x2, .int x3, .int x4, .int x5, .int x6, d7, d8, d9] [.int z0] mem Q) (if_pos (h)) kp25
      have kp24 : pm_Ex ro m_X10_boughtOf 190 [.ref 33, .int x1, .int x2, .int x3, .int x4, .int x5, .int x6, d7, d8, d9] [.int (if ¬ x1 = 1 then (if ¬ x1 = 2 then x5 else x4 : Int32) else x3 : Int32)] mem Q := by
        exact kp25a
      refine ex_many (pc' := 171) (ls' := [.ref 33, .int x1, .int x2, .int x3, .int x4, .int x5, .int x6, d7, d8, d9]) (st' := [.int 1, .int x1]) (mem' := mem) hS hC 2 rfl ?_
      refine ex_br (P := ¬ x1 = 1) (a := 178) (b := 174) (ls' := [.ref 33, .int x1, .int x2, .int x3, .int x4, .int x5, .int x6, d7, d8, d9]) (st' := []) (mem' := mem) hS hC rfl (fun h => ?_) (fun h => ?_)
      · have kp24a : pm_Ex ro m_X10_boughtOf 190 [.ref 33, .int x1, .int x2, .int x3, .int x4, .int x5, .int x6, d7, d8, d9] [.int (if ¬ x1 = 2 then x5 else x4 : Int32)] mem Q := pm_phi1 (f := fun z0 => pm_Ex ro m_X10_boughtOf 190 [.ref 33, .int x1, .int x2, .int x3, .int x4, .int x5, .int x6, d7, d8, d9] [.int z0] mem Q) (if_pos (h)) kp24
        have kp23 : pm_Ex ro m_X10_boughtOf 190 [.ref 33, .int x1, .int x2, .int x3, .int x4, .int x5, .int x6, d7, d8, d9] [.int (if ¬ x1 = 2 then x5 else x4 : Int32)] mem Q := by
          exact kp24a
        refine ex_many (pc' := 180) (ls' := [.ref 33, .int x1, .int x2, .int x3, .int x4, .int x5, .int x6, d7, d8, d9]) (st' := [.int 2, .int x1]) (mem' := mem) hS hC 2 rfl ?_
        refine ex_br (P := ¬ x1 = 2) (a := 188) (b := 183) (ls' := [.ref 33, .int x1, .int x2, .int x3, .int x4, .int x5, .int x6, d7, d8, d9]) (st' := []) (mem' := mem) hS hC rfl (fun h => ?_) (fun h => ?_)
        · have kp23a : pm_Ex ro m_X10_boughtOf 190 [.ref 33, .int x1, .int x2, .int x3, .int x4, .int x5, .int x6, d7, d8, d9] [.int x5] mem Q := pm_phi1 (f := fun z0 => pm_Ex ro m_X10_boughtOf 190 [.ref 33, .int x1, .int x2, .int x3, .int x4, .int x5, .int x6, d7, d8, d9] [.int z0] mem Q) (if_pos (h)) kp23
          refine ex_many (pc' := 190) (ls' := [.ref 33, .int x1, .int x2, .int x3, .int x4, .int x5, .int x6, d7, d8, d9]) (st' := [.int x5]) (mem' := mem) hS hC 1 rfl ?_
          exact kp23a
        · have kp23b : pm_Ex ro m_X10_boughtOf 190 [.ref 33, .int x1, .int x2, .int x3, .int x4, .int x5, .int x6, d7, d8, d9] [.int x4] mem Q := pm_phi1 (f := fun z0 => pm_Ex ro m_X10_boughtOf 190 [.ref 33, .int x1, .int x2, .int x3, .int x4, .int x5, .int x6, d7, d8, d9] [.int z0] mem Q) (if_neg (h)) kp23
          refine ex_many (pc' := 190) (ls' := [.ref 33, .int x1, .int x2, .int x3, .int x4, .int x5, .int x6, d7, d8, d9]) (st' := [.int x4]) (mem' := mem) hS hC 2 rfl ?_
          exact kp23b
      · have kp24b : pm_Ex ro m_X10_boughtOf 190 [.ref 33, .int x1, .int x2, .int x3, .int x4, .int x5, .int x6, d7, d8, d9] [.int x3] mem Q := pm_phi1 (f := fun z0 => pm_Ex ro m_X10_boughtOf 190 [.ref 33, .int x1, .int x2, .int x3, .int x4, .int x5, .int x6, d7, d8, d9] [.int z0] mem Q) (if_neg (h)) kp24
        refine ex_many (pc' := 190) (ls' := [.ref 33, .int x1, .int x2, .int x3, .int x4, .int x5, .int x6, d7, d8, d9]) (st' := [.int x3]) (mem' := mem) hS hC 2 rfl ?_
        exact kp24b
    · have kp25b : pm_Ex ro m_X10_boughtOf 190 [.ref 33, .int x1, .int x2, .int x3, .int x4, .int x5, .int x6, d7, d8, d9] [.int x2] mem Q := pm_phi1 (f := fun z0 => pm_Ex ro m_X10_boughtOf 190 [.ref 33, .int x1, .int x2, .int x3, .int x4, .int x5, .int x6, d7, d8, d9] [.int z0] mem Q) (if_neg (h)) kp25
      refine ex_many (pc' := 190) (ls' := [.ref 33, .int x1, .int x2, .int x3, .int x4, .int x5, .int x6, d7, d8, d9]) (st' := [.int x2]) (mem' := mem) hS hC 2 rfl ?_
      exact kp25b
  · replace k := k.2 (h)
    refine ex_many (pc' := 32) (ls' := [.ref 33, .int x1, .int x2, .int x3, .int x4, .int x5, .int x6, .int 0, d8, d9]) (st' := []) (mem' := mem) hS hC 2 rfl ?_
    exact k

set_option maxRecDepth 20000 in
theorem bk_X10_boughtOf_32 {ro : pm_RO} {Q : Option Value → pm_M → Prop} {mem : pm_M} {x1 x2 x3 x4 x5 x6 x7 : Int32} {d8 d9 : Value} (k : ((((1 : Int32) <<< ((mem 33 8) &&& 31)) - 1) < x7 → pm_Ex ro m_X10_boughtOf 18 [.ref 33, .int x1, .int x2, .int x3, .int x4, .int x5, .int (x6 + 1), .int x7, d8, d9] [] mem Q) ∧ (¬ ((((1 : Int32) <<< ((mem 33 8) &&& 31)) - 1) < x7) → (pm_inb ((256 * x6) + x7) 1280 = true) ∧ ((¬ (¬ ((mem 33 10) &&& (x7 ^^^ (-1))) = 0) ∧ (¬ (100000000 ≤ (mem 42 (((256 * x6) + x7).toNatClampNeg)))) → (pm_inb ((256 * x6) + x7) 1280 = true) ∧ (((mem 43 (((256 * x6) + x7).toNatClampNeg)) ≤ x5 → pm_Ex ro m_X10_boughtOf 32 [.ref 33, .int x1, .int (if ¬ (¬ ((mem 33 10) &&& (x7 ^^^ (-1))) = 0) ∧ (¬ (100000000 ≤ (mem 42 (((256 * x6) + x7).toNatClampNeg)))) then (if x2 ≤ (mem 42 (((256 * x6) + x7).toNatClampNeg)) then x2 else mem 42 (((256 * x6) + x7).toNatClampNeg) : Int32) else x2 : Int32), .int (if ¬ (¬ ((mem 33 10) &&& (x7 ^^^ (-1))) = 0) ∧ (¬ (100000000 ≤ (mem 42 (((256 * x6) + x7).toNatClampNeg)))) then (if x2 ≤ (mem 42 (((256 * x6) + x7).toNatClampNeg)) then x3 else x6 : Int32) else x3 : Int32), .int (if ¬ (¬ ((mem 33 10) &&& (x7 ^^^ (-1))) = 0) ∧ (¬ (100000000 ≤ (mem 42 (((256 * x6) + x7).toNatClampNeg)))) then (if x2 ≤ (mem 42 (((256 * x6) + x7).toNatClampNeg)) then x4 else x7 : Int32) else x4 : Int32), .int x5, .int x6, .int (x7 + 1), .int (mem 42 (((256 * x6) + x7).toNatClampNeg)), .int (zb (¬ (¬ ((mem 33 10) &&& (x7 ^^^ (-1))) = 0) ∧ (¬ (100000000 ≤ (mem 42 (((256 * x6) + x7).toNatClampNeg))))))] [] mem Q) ∧ (¬ ((mem 43 (((256 * x6) + x7).toNatClampNeg)) ≤ x5) → (pm_inb ((256 * x6) + x7) 1280 = true) ∧ (pm_Ex ro m_X10_boughtOf 32 [.ref 33, .int x1, .int (if ¬ (¬ ((mem 33 10) &&& (x7 ^^^ (-1))) = 0) ∧ (¬ (100000000 ≤ (mem 42 (((256 * x6) + x7).toNatClampNeg)))) then (if x2 ≤ (mem 42 (((256 * x6) + x7).toNatClampNeg)) then x2 else mem 42 (((256 * x6) + x7).toNatClampNeg) : Int32) else x2 : Int32), .int (if ¬ (¬ ((mem 33 10) &&& (x7 ^^^ (-1))) = 0) ∧ (¬ (100000000 ≤ (mem 42 (((256 * x6) + x7).toNatClampNeg)))) then (if x2 ≤ (mem 42 (((256 * x6) + x7).toNatClampNeg)) then x3 else x6 : Int32) else x3 : Int32), .int (if ¬ (¬ ((mem 33 10) &&& (x7 ^^^ (-1))) = 0) ∧ (¬ (100000000 ≤ (mem 42 (((256 * x6) + x7).toNatClampNeg)))) then (if x2 ≤ (mem 42 (((256 * x6) + x7).toNatClampNeg)) then x4 else x7 : Int32) else x4 : Int32), .int (mem 43 (((256 * x6) + x7).toNatClampNeg)), .int x6, .int (x7 + 1), .int (mem 42 (((256 * x6) + x7).toNatClampNeg)), .int (zb (¬ (¬ ((mem 33 10) &&& (x7 ^^^ (-1))) = 0) ∧ (¬ (100000000 ≤ (mem 42 (((256 * x6) + x7).toNatClampNeg))))))] [] mem Q)))) ∧ (¬ (¬ (¬ ((mem 33 10) &&& (x7 ^^^ (-1))) = 0) ∧ (¬ (100000000 ≤ (mem 42 (((256 * x6) + x7).toNatClampNeg))))) → pm_Ex ro m_X10_boughtOf 32 [.ref 33, .int x1, .int (if ¬ (¬ ((mem 33 10) &&& (x7 ^^^ (-1))) = 0) ∧ (¬ (100000000 ≤ (mem 42 (((256 * x6) + x7).toNatClampNeg)))) then (if x2 ≤ (mem 42 (((256 * x6) + x7).toNatClampNeg)) then x2 else mem 42 (((256 * x6) + x7).toNatClampNeg) : Int32) else x2 : Int32), .int (if ¬ (¬ ((mem 33 10) &&& (x7 ^^^ (-1))) = 0) ∧ (¬ (100000000 ≤ (mem 42 (((256 * x6) + x7).toNatClampNeg)))) then (if x2 ≤ (mem 42 (((256 * x6) + x7).toNatClampNeg)) then x3 else x6 : Int32) else x3 : Int32), .int (if ¬ (¬ ((mem 33 10) &&& (x7 ^^^ (-1))) = 0) ∧ (¬ (100000000 ≤ (mem 42 (((256 * x6) + x7).toNatClampNeg)))) then (if x2 ≤ (mem 42 (((256 * x6) + x7).toNatClampNeg)) then x4 else x7 : Int32) else x4 : Int32), .int x5, .int x6, .int (x7 + 1), .int (mem 42 (((256 * x6) + x7).toNatClampNeg)), .int (zb (¬ (¬ ((mem 33 10) &&& (x7 ^^^ (-1))) = 0) ∧ (¬ (100000000 ≤ (mem 42 (((256 * x6) + x7).toNatClampNeg))))))] [] mem Q)))) : pm_Ex ro m_X10_boughtOf 32 [.ref 33, .int x1, .int x2, .int x3, .int x4, .int x5, .int x6, .int x7, d8, d9] [] mem Q := by
  have hS : pm_sig[m_X10_boughtOf]? = some _ := rfl
  have hC : pm_cod[m_X10_boughtOf]? = some _ := rfl
  refine ex_many (pc' := 35) (ls' := [.ref 33, .int x1, .int x2, .int x3, .int x4, .int x5, .int x6, .int x7, d8, d9]) (st' := [.ref 33, .int x7]) (mem' := mem) hS hC 2 rfl ?_
  refine ex_call (y' := m_X10_whole) (rest := [.int x7]) (ent := [.ref 33]) hS hC rfl rfl rfl rfl rfl rfl ?_
  refine bk_X10_whole_0 ?_
  show pm_Ex ro m_X10_boughtOf 38 [.ref 33, .int x1, .int x2, .int x3, .int x4, .int x5, .int x6, .int x7, d8, d9] [.int (((1 : Int32) <<< ((mem 33 8) &&& 31)) - 1), .int x7] mem Q
  refine ex_br (P := (((1 : Int32) <<< ((mem 33 8) &&& 31)) - 1) < x7) (a := 155) (b := 41) (ls' := [.ref 33, .int x1, .int x2, .int x3, .int x4, .int x5, .int x6, .int x7, d8, d9]) (st' := []) (mem' := mem) hS hC rfl (fun h => ?_) (fun h => ?_)
  · replace k := k.1 (h)
    refine ex_many (pc' := 18) (ls' := [.ref 33, .int x1, .int x2, .int x3, .int x4, .int x5, .int (x6 + 1), .int x7, d8, d9]) (st' := []) (mem' := mem) hS hC 2 rfl ?_
    exact k
  · replace k := k.2 (h)
    refine ex_many (pc' := 54) (ls' := [.ref 33, .int x1, .int x2, .int x3, .int x4, .int x5, .int x6, .int x7, d8, d9]) (st' := [.int ((256 * x6) + x7), .ref 42]) (mem' := mem) hS hC 7 rfl ?_
    refine ex_grd (b := pm_inb ((256 * x6) + x7) 1280) (pc' := 55) (ls' := [.ref 33, .int x1, .int x2, .int x3, .int x4, .int x5, .int x6, .int x7, d8, d9]) (st' := [.int (mem 42 (((256 * x6) + x7).toNatClampNeg))]) (mem' := mem) hS hC rfl k.1 ?_
    replace k := k.2
    refine ex_many (pc' := 66) (ls' := [.ref 33, .int x1, .int x2, .int x3, .int x4, .int x5, .int x6, .int x7, .int (mem 42 (((256 * x6) + x7).toNatClampNeg)), d9]) (st' := [.int ((mem 33 10) &&& (x7 ^^^ (-1)))]) (mem' := mem) hS hC 7 rfl ?_
    have kp29 : pm_Ex ro m_X10_boughtOf 81 [.ref 33, .int x1, .int x2, .int x3, .int x4, .int x5, .int x6, .int x7, .int (mem 42 (((256 * x6) + x7).toNatClampNeg)), d9] [.int (zb (¬ (¬ ((mem 33 10) &&& (x7 ^^^ (-1))) = 0) ∧ (¬ (100000000 ≤ (mem 42 (((256 * x6) + x7).toNatClampNeg))))))] mem Q := by
      refine ex_many (pc' := 85) (ls' := [.ref 33, .int x1, .int x2, .int x3, .int x4, .int x5, .int x6, .int x7, .int (mem 42 (((256 * x6) + x7).toNatClampNeg)), .int (zb (¬ (¬ ((mem 33 10) &&& (x7 ^^^ (-1))) = 0) ∧ (¬ (100000000 ≤ (mem 42 (((256 * x6) + x7).toNatClampNeg))))))]) (st' := [.int (zb (¬ (¬ ((mem 33 10) &&& (x7 ^^^ (-1))) = 0) ∧ (¬ (100000000 ≤ (mem 42 (((256 * x6) + x7).toNatClampNeg))))))]) (mem' := mem) hS hC 2 rfl ?_
      have kp28 : pm_Ex ro m_X10_boughtOf 104 [.ref 33, .int x1, .int (if ¬ (¬ ((mem 33 10) &&& (x7 ^^^ (-1))) = 0) ∧ (¬ (100000000 ≤ (mem 42 (((256 * x6) + x7).toNatClampNeg)))) then (if x2 ≤ (mem 42 (((256 * x6) + x7).toNatClampNeg)) then x2 else mem 42 (((256 * x6) + x7).toNatClampNeg) : Int32) else x2 : Int32), .int (if ¬ (¬ ((mem 33 10) &&& (x7 ^^^ (-1))) = 0) ∧ (¬ (100000000 ≤ (mem 42 (((256 * x6) + x7).toNatClampNeg)))) then (if x2 ≤ (mem 42 (((256 * x6) + x7).toNatClampNeg)) then x3 else x6 : Int32) else x3 : Int32), .int (if ¬ (¬ ((mem 33 10) &&& (x7 ^^^ (-1))) = 0) ∧ (¬ (100000000 ≤ (mem 42 (((256 * x6) + x7).toNatClampNeg)))) then (if x2 ≤ (mem 42 (((256 * x6) + x7).toNatClampNeg)) then x4 else x7 : Int32) else x4 : Int32), .int x5, .int x6, .int x7, .int (mem 42 (((256 * x6) + x7).toNatClampNeg)), .int (zb (¬ (¬ ((mem 33 10) &&& (x7 ^^^ (-1))) = 0) ∧ (¬ (100000000 ≤ (mem 42 (((256 * x6) + x7).toNatClampNeg))))))] [] mem Q := by
        refine ex_many (pc' := 106) (ls' := [.ref 33, .int x1, .int (if ¬ (¬ ((mem 33 10) &&& (x7 ^^^ (-1))) = 0) ∧ (¬ (100000000 ≤ (mem 42 (((256 * x6) + x7).toNatClampNeg)))) then (if x2 ≤ (mem 42 (((256 * x6) + x7).toNatClampNeg)) then x2 else mem 42 (((256 * x6) + x7).toNatClampNeg) : Int32) else x2 : Int32), .int (if ¬ (¬ ((mem 33 10) &&& (x7 ^^^ (-1))) = 0) ∧ (¬ (100000000 ≤ (mem 42 (((256 * x6) + x7).toNatClampNeg)))) then (if x2 ≤ (mem 42 (((256 * x6) + x7).toNatClampNeg)) then x3 else x6 : Int32) else x3 : Int32), .int (if ¬ (¬ ((mem 33 10) &&& (x7 ^^^ (-1))) = 0) ∧ (¬ (100000000 ≤ (mem 42 (((256 * x6) + x7).toNatClampNeg)))) then (if x2 ≤ (mem 42 (((256 * x6) + x7).toNatClampNeg)) then x4 else x7 : Int32) else x4 : Int32), .int x5, .int x6, .int x7, .int (mem 42 (((256 * x6) + x7).toNatClampNeg)), .int (zb (¬ (¬ ((mem 33 10) &&& (x7 ^^^ (-1))) = 0) ∧ (¬ (100000000 ≤ (mem 42 (((256 * x6) + x7).toNatClampNeg))))))]) (st' := [.int (zb (¬ (¬ ((mem 33 10) &&& (x7 ^^^ (-1))) = 0) ∧ (¬ (100000000 ≤ (mem 42 (((256 * x6) + x7).toNatClampNeg))))))]) (mem' := mem) hS hC 1 rfl ?_
        refine ex_br (P := (zb (¬ (¬ ((mem 33 10) &&& (x7 ^^^ (-1))) = 0) ∧ (¬ (100000000 ≤ (mem 42 (((256 * x6) + x7).toNatClampNeg)))))) = 0) (a := 145) (b := 109) (ls' := [.ref 33, .int x1, .int (if ¬ (¬ ((mem 33 10) &&& (x7 ^^^ (-1))) = 0) ∧ (¬ (100000000 ≤ (mem 42 (((256 * x6) + x7).toNatClampNeg)))) then (if x2 ≤ (mem 42 (((256 * x6) + x7).toNatClampNeg)) then x2 else mem 42 (((256 * x6) + x7).toNatClampNeg) : Int32) else x2 : Int32), .int (if ¬ (¬ ((mem 33 10) &&& (x7 ^^^ (-1))) = 0) ∧ (¬ (100000000 ≤ (mem 42 (((256 * x6) + x7).toNatClampNeg)))) then (if x2 ≤ (mem 42 (((256 * x6) + x7).toNatClampNeg)) then x3 else x6 : Int32) else x3 : Int32), .int (if ¬ (¬ ((mem 33 10) &&& (x7 ^^^ (-1))) = 0) ∧ (¬ (100000000 ≤ (mem 42 (((256 * x6) + x7).toNatClampNeg)))) then (if x2 ≤ (mem 42 (((256 * x6) + x7).toNatClampNeg)) then x4 else x7 : Int32) else x4 : Int32), .int x5, .int x6, .int x7, .int (mem 42 (((256 * x6) + x7).toNatClampNeg)), .int (zb (¬ (¬ ((mem 33 10) &&& (x7 ^^^ (-1))) = 0) ∧ (¬ (100000000 ≤ (mem 42 (((256 * x6) + x7).toNatClampNeg))))))]) (st' := []) (mem' := mem) hS hC rfl (fun h => ?_) (fun h => ?_)
        · replace k := k.2 (zb0 h)
          refine ex_many (pc' := 32) (ls' := [.ref 33, .int x1, .int (if ¬ (¬ ((mem 33 10) &&& (x7 ^^^ (-1))) = 0) ∧ (¬ (100000000 ≤ (mem 42 (((256 * x6) + x7).toNatClampNeg)))) then (if x2 ≤ (mem 42 (((256 * x6) + x7).toNatClampNeg)) then x2 else mem 42 (((256 * x6) + x7).toNatClampNeg) : Int32) else x2 : Int32), .int (if ¬ (¬ ((mem 33 10) &&& (x7 ^^^ (-1))) = 0) ∧ (¬ (100000000 ≤ (mem 42 (((256 * x6) + x7).toNatClampNeg)))) then (if x2 ≤ (mem 42 (((256 * x6) + x7).toNatClampNeg)) then x3 else x6 : Int32) else x3 : Int32), .int (if ¬ (¬ ((mem 33 10) &&& (x7 ^^^ (-1))) = 0) ∧ (¬ (100000000 ≤ (mem 42 (((256 * x6) + x7).toNatClampNeg)))) then (if x2 ≤ (mem 42 (((256 * x6) + x7).toNatClampNeg)) then x4 else x7 : Int32) else x4 : Int32), .int x5, .int x6, .int (x7 + 1), .int (mem 42 (((256 * x6) + x7).toNatClampNeg)), .int (zb (¬ (¬ ((mem 33 10) &&& (x7 ^^^ (-1))) = 0) ∧ (¬ (100000000 ≤ (mem 42 (((256 * x6) + x7).toNatClampNeg))))))]) (st' := []) (mem' := mem) hS hC 4 rfl ?_
          exact k
        · replace k := k.1 (zb1 h)
          refine ex_many (pc' := 122) (ls' := [.ref 33, .int x1, .int (if ¬ (¬ ((mem 33 10) &&& (x7 ^^^ (-1))) = 0) ∧ (¬ (100000000 ≤ (mem 42 (((256 * x6) + x7).toNatClampNeg)))) then (if x2 ≤ (mem 42 (((256 * x6) + x7).toNatClampNeg)) then x2 else mem 42 (((256 * x6) + x7).toNatClampNeg) : Int32) else x2 : Int32), .int (if ¬ (¬ ((mem 33 10) &&& (x7 ^^^ (-1))) = 0) ∧ (¬ (100000000 ≤ (mem 42 (((256 * x6) + x7).toNatClampNeg)))) then (if x2 ≤ (mem 42 (((256 * x6) + x7).toNatClampNeg)) then x3 else x6 : Int32) else x3 : Int32), .int (if ¬ (¬ ((mem 33 10) &&& (x7 ^^^ (-1))) = 0) ∧ (¬ (100000000 ≤ (mem 42 (((256 * x6) + x7).toNatClampNeg)))) then (if x2 ≤ (mem 42 (((256 * x6) + x7).toNatClampNeg)) then x4 else x7 : Int32) else x4 : Int32), .int x5, .int x6, .int x7, .int (mem 42 (((256 * x6) + x7).toNatClampNeg)), .int (zb (¬ (¬ ((mem 33 10) &&& (x7 ^^^ (-1))) = 0) ∧ (¬ (100000000 ≤ (mem 42 (((256 * x6) + x7).toNatClampNeg))))))]) (st' := [.int ((256 * x6) + x7), .ref 43]) (mem' := mem) hS hC 7 rfl ?_
          refine ex_grd (b := pm_inb ((256 * x6) + x7) 1280) (pc' := 123) (ls' := [.ref 33, .int x1, .int (if ¬ (¬ ((mem 33 10) &&& (x7 ^^^ (-1))) = 0) ∧ (¬ (100000000 ≤ (mem 42 (((256 * x6) + x7).toNatClampNeg)))) then (if x2 ≤ (mem 42 (((256 * x6) + x7).toNatClampNeg)) then x2 else mem 42 (((256 * x6) + x7).toNatClampNeg) : Int32) else x2 : Int32), .int (if ¬ (¬ ((mem 33 10) &&& (x7 ^^^ (-1))) = 0) ∧ (¬ (100000000 ≤ (mem 42 (((256 * x6) + x7).toNatClampNeg)))) then (if x2 ≤ (mem 42 (((256 * x6) + x7).toNatClampNeg)) then x3 else x6 : Int32) else x3 : Int32), .int (if ¬ (¬ ((mem 33 10) &&& (x7 ^^^ (-1))) = 0) ∧ (¬ (100000000 ≤ (mem 42 (((256 * x6) + x7).toNatClampNeg)))) then (if x2 ≤ (mem 42 (((256 * x6) + x7).toNatClampNeg)) then x4 else x7 : Int32) else x4 : Int32), .int x5, .int x6, .int x7, .int (mem 42 (((256 * x6) + x7).toNatClampNeg)), .int (zb (¬ (¬ ((mem 33 10) &&& (x7 ^^^ (-1))) = 0) ∧ (¬ (100000000 ≤ (mem 42 (((256 * x6) + x7).toNatClampNeg))))))]) (st' := [.int (mem 43 (((256 * x6) + x7).toNatClampNeg))]) (mem' := mem) hS hC rfl k.1 ?_
          replace k := k.2
          refine ex_many (pc' := 125) (ls' := [.ref 33, .int x1, .int (if ¬ (¬ ((mem 33 10) &&& (x7 ^^^ (-1))) = 0) ∧ (¬ (100000000 ≤ (mem 42 (((256 * x6) + x7).toNatClampNeg)))) then (if x2 ≤ (mem 42 (((256 * x6) + x7).toNatClampNeg)) then x2 else mem 42 (((256 * x6) + x7).toNatClampNeg) : Int32) else x2 : Int32), .int (if ¬ (¬ ((mem 33 10) &&& (x7 ^^^ (-1))) = 0) ∧ (¬ (100000000 ≤ (mem 42 (((256 * x6) + x7).toNatClampNeg)))) then (if x2 ≤ (mem 42 (((256 * x6) + x7).toNatClampNeg)) then x3 else x6 : Int32) else x3 : Int32), .int (if ¬ (¬ ((mem 33 10) &&& (x7 ^^^ (-1))) = 0) ∧ (¬ (100000000 ≤ (mem 42 (((256 * x6) + x7).toNatClampNeg)))) then (if x2 ≤ (mem 42 (((256 * x6) + x7).toNatClampNeg)) then x4 else x7 : Int32) else x4 : Int32), .int x5, .int x6, .int x7, .int (mem 42 (((256 * x6) + x7).toNatClampNeg)), .int (zb (¬ (¬ ((mem 33 10) &&& (x7 ^^^ (-1))) = 0) ∧ (¬ (100000000 ≤ (mem 42 (((256 * x6) + x7).toNatClampNeg))))))]) (st' := [.int x5, .int (mem 43 (((256 * x6) + x7).toNatClampNeg))]) (mem' := mem) hS hC 1 rfl ?_
          refine ex_br (P := (mem 43 (((256 * x6) + x7).toNatClampNeg)) ≤ x5) (a := 145) (b := 128) (ls' := [.ref 33, .int x1, .int (if ¬ (¬ ((mem 33 10) &&& (x7 ^^^ (-1))) = 0) ∧ (¬ (100000000 ≤ (mem 42 (((256 * x6) + x7).toNatClampNeg)))) then (if x2 ≤ (mem 42 (((256 * x6) + x7).toNatClampNeg)) then x2 else mem 42 (((256 * x6) + x7).toNatClampNeg) : Int32) else x2 : Int32), .int (if ¬ (¬ ((mem 33 10) &&& (x7 ^^^ (-1))) = 0) ∧ (¬ (100000000 ≤ (mem 42 (((256 * x6) + x7).toNatClampNeg)))) then (if x2 ≤ (mem 42 (((256 * x6) + x7).toNatClampNeg)) then x3 else x6 : Int32) else x3 : Int32), .int (if ¬ (¬ ((mem 33 10) &&& (x7 ^^^ (-1))) = 0) ∧ (¬ (100000000 ≤ (mem 42 (((256 * x6) + x7).toNatClampNeg)))) then (if x2 ≤ (mem 42 (((256 * x6) + x7).toNatClampNeg)) then x4 else x7 : Int32) else x4 : Int32), .int x5, .int x6, .int x7, .int (mem 42 (((256 * x6) + x7).toNatClampNeg)), .int (zb (¬ (¬ ((mem 33 10) &&& (x7 ^^^ (-1))) = 0) ∧ (¬ (100000000 ≤ (mem 42 (((256 * x6) + x7).toNatClampNeg))))))]) (st' := []) (mem' := mem) hS hC rfl (fun h => ?_) (fun h => ?_)
          · replace k := k.1 (h)
            refine ex_many (pc' := 32) (ls' := [.ref 33, .int x1, .int (if ¬ (¬ ((mem 33 10) &&& (x7 ^^^ (-1))) = 0) ∧ (¬ (100000000 ≤ (mem 42 (((256 * x6) + x7).toNatClampNeg)))) then (if x2 ≤ (mem 42 (((256 * x6) + x7).toNatClampNeg)) then x2 else mem 42 (((256 * x6) + x7).toNatClampNeg) : Int32) else x2 : Int32), .int (if ¬ (¬ ((mem 33 10) &&& (x7 ^^^ (-1))) = 0) ∧ (¬ (100000000 ≤ (mem 42 (((256 * x6) + x7).toNatClampNeg)))) then (if x2 ≤ (mem 42 (((256 * x6) + x7).toNatClampNeg)) then x3 else x6 : Int32) else x3 : Int32), .int (if ¬ (¬ ((mem 33 10) &&& (x7 ^^^ (-1))) = 0) ∧ (¬ (100000000 ≤ (mem 42 (((256 * x6) + x7).toNatClampNeg)))) then (if x2 ≤ (mem 42 (((256 * x6) + x7).toNatClampNeg)) then x4 else x7 : Int32) else x4 : Int32), .int x5, .int x6, .int (x7 + 1), .int (mem 42 (((256 * x6) + x7).toNatClampNeg)), .int (zb (¬ (¬ ((mem 33 10) &&& (x7 ^^^ (-1))) = 0) ∧ (¬ (100000000 ≤ (mem 42 (((256 * x6) + x7).toNatClampNeg))))))]) (st' := []) (mem' := mem) hS hC 4 rfl ?_
            exact k
          · replace k := k.2 (h)
            refine ex_many (pc' := 141) (ls' := [.ref 33, .int x1, .int (if ¬ (¬ ((mem 33 10) &&& (x7 ^^^ (-1))) = 0) ∧ (¬ (100000000 ≤ (mem 42 (((256 * x6) + x7).toNatClampNeg)))) then (if x2 ≤ (mem 42 (((256 * x6) + x7).toNatClampNeg)) then x2 else mem 42 (((256 * x6) + x7).toNatClampNeg) : Int32) else x2 : Int32), .int (if ¬ (¬ ((mem 33 10) &&& (x7 ^^^ (-1))) = 0) ∧ (¬ (100000000 ≤ (mem 42 (((256 * x6) + x7).toNatClampNeg)))) then (if x2 ≤ (mem 42 (((256 * x6) + x7).toNatClampNeg)) then x3 else x6 : Int32) else x3 : Int32), .int (if ¬ (¬ ((mem 33 10) &&& (x7 ^^^ (-1))) = 0) ∧ (¬ (100000000 ≤ (mem 42 (((256 * x6) + x7).toNatClampNeg)))) then (if x2 ≤ (mem 42 (((256 * x6) + x7).toNatClampNeg)) then x4 else x7 : Int32) else x4 : Int32), .int x5, .int x6, .int x7, .int (mem 42 (((256 * x6) + x7).toNatClampNeg)), .int (zb (¬ (¬ ((mem 33 10) &&& (x7 ^^^ (-1))) = 0) ∧ (¬ (100000000 ≤ (mem 42 (((256 * x6) + x7).toNatClampNeg))))))]) (st' := [.int ((256 * x6) + x7), .ref 43]) (mem' := mem) hS hC 7 rfl ?_
            refine ex_grd (b := pm_inb ((256 * x6) + x7) 1280) (pc' := 142) (ls' := [.ref 33, .int x1, .int (if ¬ (¬ ((mem 33 10) &&& (x7 ^^^ (-1))) = 0) ∧ (¬ (100000000 ≤ (mem 42 (((256 * x6) + x7).toNatClampNeg)))) then (if x2 ≤ (mem 42 (((256 * x6) + x7).toNatClampNeg)) then x2 else mem 42 (((256 * x6) + x7).toNatClampNeg) : Int32) else x2 : Int32), .int (if ¬ (¬ ((mem 33 10) &&& (x7 ^^^ (-1))) = 0) ∧ (¬ (100000000 ≤ (mem 42 (((256 * x6) + x7).toNatClampNeg)))) then (if x2 ≤ (mem 42 (((256 * x6) + x7).toNatClampNeg)) then x3 else x6 : Int32) else x3 : Int32), .int (if ¬ (¬ ((mem 33 10) &&& (x7 ^^^ (-1))) = 0) ∧ (¬ (100000000 ≤ (mem 42 (((256 * x6) + x7).toNatClampNeg)))) then (if x2 ≤ (mem 42 (((256 * x6) + x7).toNatClampNeg)) then x4 else x7 : Int32) else x4 : Int32), .int x5, .int x6, .int x7, .int (mem 42 (((256 * x6) + x7).toNatClampNeg)), .int (zb (¬ (¬ ((mem 33 10) &&& (x7 ^^^ (-1))) = 0) ∧ (¬ (100000000 ≤ (mem 42 (((256 * x6) + x7).toNatClampNeg))))))]) (st' := [.int (mem 43 (((256 * x6) + x7).toNatClampNeg))]) (mem' := mem) hS hC rfl k.1 ?_
            replace k := k.2
            refine ex_many (pc' := 32) (ls' := [.ref 33, .int x1, .int (if ¬ (¬ ((mem 33 10) &&& (x7 ^^^ (-1))) = 0) ∧ (¬ (100000000 ≤ (mem 42 (((256 * x6) + x7).toNatClampNeg)))) then (if x2 ≤ (mem 42 (((256 * x6) + x7).toNatClampNeg)) then x2 else mem 42 (((256 * x6) + x7).toNatClampNeg) : Int32) else x2 : Int32), .int (if ¬ (¬ ((mem 33 10) &&& (x7 ^^^ (-1))) = 0) ∧ (¬ (100000000 ≤ (mem 42 (((256 * x6) + x7).toNatClampNeg)))) then (if x2 ≤ (mem 42 (((256 * x6) + x7).toNatClampNeg)) then x3 else x6 : Int32) else x3 : Int32), .int (if ¬ (¬ ((mem 33 10) &&& (x7 ^^^ (-1))) = 0) ∧ (¬ (100000000 ≤ (mem 42 (((256 * x6) + x7).toNatClampNeg)))) then (if x2 ≤ (mem 42 (((256 * x6) + x7).toNatClampNeg)) then x4 else x7 : Int32) else x4 : Int32), .int (mem 43 (((256 * x6) + x7).toNatClampNeg)), .int x6, .int (x7 + 1), .int (mem 42 (((256 * x6) + x7).toNatClampNeg)), .int (zb (¬ (¬ ((mem 33 10) &&& (x7 ^^^ (-1))) = 0) ∧ (¬ (100000000 ≤ (mem 42 (((256 * x6) + x7).toNatClampNeg))))))]) (st' := []) (mem' := mem) hS hC 4 rfl ?_
            exact k
      refine ex_br (P := (zb (¬ (¬ ((mem 33 10) &&& (x7 ^^^ (-1))) = 0) ∧ (¬ (100000000 ≤ (mem 42 (((256 * x6) + x7).toNatClampNeg)))))) = 0) (a := 104) (b := 88) (ls' := [.ref 33, .int x1, .int x2, .int x3, .int x4, .int x5, .int x6, .int x7, .int (mem 42 (((256 * x6) + x7).toNatClampNeg)), .int (zb (¬ (¬ ((mem 33 10) &&& (x7 ^^^ (-1))) = 0) ∧ (¬ (100000000 ≤ (mem 42 (((256 * x6) + x7).toNatClampNeg))))))]) (st' := []) (mem' := mem) hS hC rfl (fun h => ?_) (fun h => ?_)
      · have kp28a : pm_Ex ro m_X10_boughtOf 104 [.ref 33, .int x1, .int x2, .int x3, .int x4, .int x5, .int x6, .int x7, .int (mem 42 (((256 * x6) + x7).toNatClampNeg)), .int (zb (¬ (¬ ((mem 33 10) &&& (x7 ^^^ (-1))) = 0) ∧ (¬ (100000000 ≤ (mem 42 (((256 * x6) + x7).toNatClampNeg))))))] [] mem Q := pm_phi3 (f := fun z0 z1 z2 => pm_Ex ro m_X10_boughtOf 104 [.ref 33, .int x1, .int z0, .int z1, .int z2, .int x5, .int x6, .int x7, .int (mem 42 (((256 * x6) + x7).toNatClampNeg)), .int (zb (¬ (¬ ((mem 33 10) &&& (x7 ^^^ (-1))) = 0) ∧ (¬ (100000000 ≤ (mem 42 (((256 * x6) + x7).toNatClampNeg))))))] [] mem Q) (if_neg (zb0 h)) (if_neg (zb0 h)) (if_neg (zb0 h)) kp28
        exact kp28a
      · have kp28b : pm_Ex ro m_X10_boughtOf 104 [.ref 33, .int x1, .int (if x2 ≤ (mem 42 (((256 * x6) + x7).toNatClampNeg)) then x2 else mem 42 (((256 * x6) + x7).toNatClampNeg) : Int32), .int (if x2 ≤ (mem 42 (((256 * x6) + x7).toNatClampNeg)) then x3 else x6 : Int32), .int (if x2 ≤ (mem 42 (((256 * x6) + x7).toNatClampNeg)) then x4 else x7 : Int32), .int x5, .int x6, .int x7, .int (mem 42 (((256 * x6) + x7).toNatClampNeg)), .int (zb (¬ (¬ ((mem 33 10) &&& (x7 ^^^ (-1))) = 0) ∧ (¬ (100000000 ≤ (mem 42 (((256 * x6) + x7).toNatClampNeg))))))] [] mem Q := pm_phi3 (f := fun z0 z1 z2 => pm_Ex ro m_X10_boughtOf 104 [.ref 33, .int x1, .int z0, .int z1, .int z2, .int x5, .int x6, .int x7, .int (mem 42 (((256 * x6) + x7).toNatClampNeg)), .int (zb (¬ (¬ ((mem 33 10) &&& (x7 ^^^ (-1))) = 0) ∧ (¬ (100000000 ≤ (mem 42 (((256 * x6) + x7).toNatClampNeg))))))] [] mem Q) (if_pos (zb1 h)) (if_pos (zb1 h)) (if_pos (zb1 h)) kp28
        have kp27 : pm_Ex ro m_X10_boughtOf 104 [.ref 33, .int x1, .int (if x2 ≤ (mem 42 (((256 * x6) + x7).toNatClampNeg)) then x2 else mem 42 (((256 * x6) + x7).toNatClampNeg) : Int32), .int (if x2 ≤ (mem 42 (((256 * x6) + x7).toNatClampNeg)) then x3 else x6 : Int32), .int (if x2 ≤ (mem 42 (((256 * x6) + x7).toNatClampNeg)) then x4 else x7 : Int32), .int x5, .int x6, .int x7, .int (mem 42 (((256 * x6) + x7).toNatClampNeg)), .int (zb (¬ (¬ ((mem 33 10) &&& (x7 ^^^ (-1))) = 0) ∧ (¬ (100000000 ≤ (mem 42 (((256 * x6) + x7).toNatClampNeg))))))] [] mem Q := by
          exact kp28b
        refine ex_many (pc' := 91) (ls' := [.ref 33, .int x1, .int x2, .int x3, .int x4, .int x5, .int x6, .int x7, .int (mem 42 (((256 * x6) + x7).toNatClampNeg)), .int (zb (¬ (¬ ((mem 33 10) &&& (x7 ^^^ (-1))) = 0) ∧ (¬ (100000000 ≤ (mem 42 (((256 * x6) + x7).toNatClampNeg))))))]) (st' := [.int x2, .int (mem 42 (((256 * x6) + x7).toNatClampNeg))]) (mem' := mem) hS hC 2 rfl ?_
        refine ex_br (P := x2 ≤ (mem 42 (((256 * x6) + x7).toNatClampNeg))) (a := 104) (b := 94) (ls' := [.ref 33, .int x1, .int x2, .int x3, .int x4, .int x5, .int x6, .int x7, .int (mem 42 (((256 * x6) + x7).toNatClampNeg)), .int (zb (¬ (¬ ((mem 33 10) &&& (x7 ^^^ (-1))) = 0) ∧ (¬ (100000000 ≤ (mem 42 (((256 * x6) + x7).toNatClampNeg))))))]) (st' := []) (mem' := mem) hS hC rfl (fun h => ?_) (fun h => ?_)
        · have kp27a : pm_Ex ro m_X10_boughtOf 104 [.ref 33, .int x1, .int x2, .int x3, .int x4, .int x5, .int x6, .int x7, .int (mem 42 (((256 * x6) + x7).toNatClampNeg)), .int (zb (¬ (¬ ((mem 33 10) &&& (x7 ^^^ (-1))) = 0) ∧ (¬ (100000000 ≤ (mem 42 (((256 * x6) + x7).toNatClampNeg))))))] [] mem Q := pm_phi3 (f := fun z0 z1 z2 => pm_Ex ro m_X10_boughtOf 104 [.ref 33, .int x1, .int z0, .int z1, .int z2, .int x5, .int x6, .int x7, .int (mem 42 (((256 * x6) + x7).toNatClampNeg)), .int (zb (¬ (¬ ((mem 33 10) &&& (x7 ^^^ (-1))) = 0) ∧ (¬ (100000000 ≤ (mem 42 (((256 * x6) + x7).toNatClampNeg))))))] [] mem Q) (if_pos (h)) (if_pos (h)) (if_pos (h)) kp27
          exact kp27a
        · have kp27b : pm_Ex ro m_X10_boughtOf 104 [.ref 33, .int x1, .int (mem 42 (((256 * x6) + x7).toNatClampNeg)), .int x6, .int x7, .int x5, .int x6, .int x7, .int (mem 42 (((256 * x6) + x7).toNatClampNeg)), .int (zb (¬ (¬ ((mem 33 10) &&& (x7 ^^^ (-1))) = 0) ∧ (¬ (100000000 ≤ (mem 42 (((256 * x6) + x7).toNatClampNeg))))))] [] mem Q := pm_phi3 (f := fun z0 z1 z2 => pm_Ex ro m_X10_boughtOf 104 [.ref 33, .int x1, .int z0, .int z1, .int z2, .int x5, .int x6, .int x7, .int (mem 42 (((256 * x6) + x7).toNatClampNeg)), .int (zb (¬ (¬ ((mem 33 10) &&& (x7 ^^^ (-1))) = 0) ∧ (¬ (100000000 ≤ (mem 42 (((256 * x6) + x7).toNatClampNeg))))))] [] mem Q) (if_neg (h)) (if_neg (h)) (if_neg (h)) kp27
          refine ex_many (pc' := 104) (ls' := [.ref 33, .int x1, .int (mem 42 (((256 * x6) + x7).toNatClampNeg)), .int x6, .int x7, .int x5, .int x6, .int x7, .int (mem 42 (((256 * x6) + x7).toNatClampNeg)), .int (zb (¬ (¬ ((mem 33 10) &&& (x7 ^^^ (-1))) = 0) ∧ (¬ (100000000 ≤ (mem 42 (((256 * x6) + x7).toNatClampNeg))))))]) (st' := []) (mem' := mem) hS hC 6 rfl ?_
          exact kp27b
    refine ex_br (P := ¬ ((mem 33 10) &&& (x7 ^^^ (-1))) = 0) (a := 80) (b := 69) (ls' := [.ref 33, .int x1, .int x2, .int x3, .int x4, .int x5, .int x6, .int x7, .int (mem 42 (((256 * x6) + x7).toNatClampNeg)), d9]) (st' := []) (mem' := mem) hS hC rfl (fun h => ?_) (fun h => ?_)
    · have kp29a : pm_Ex ro m_X10_boughtOf 81 [.ref 33, .int x1, .int x2, .int x3, .int x4, .int x5, .int x6, .int x7, .int (mem 42 (((256 * x6) + x7).toNatClampNeg)), d9] [.int 0] mem Q := pm_phi1 (f := fun z0 => pm_Ex ro m_X10_boughtOf 81 [.ref 33, .int x1, .int x2, .int x3, .int x4, .int x5, .int x6, .int x7, .int (mem 42 (((256 * x6) + x7).toNatClampNeg)), d9] [.int z0] mem Q) (zbN_t (h)) kp29
      refine ex_many (pc' := 81) (ls' := [.ref 33, .int x1, .int x2, .int x3, .int x4, .int x5, .int x6, .int x7, .int (mem 42 (((256 * x6) + x7).toNatClampNeg)), d9]) (st' := [.int 0]) (mem' := mem) hS hC 1 rfl ?_
      exact kp29a
    · have kp29b : pm_Ex ro m_X10_boughtOf 81 [.ref 33, .int x1, .int x2, .int x3, .int x4, .int x5, .int x6, .int x7, .int (mem 42 (((256 * x6) + x7).toNatClampNeg)), d9] [.int (zb (¬ (100000000 ≤ (mem 42 (((256 * x6) + x7).toNatClampNeg)))))] mem Q := pm_phi1 (f := fun z0 => pm_Ex ro m_X10_boughtOf 81 [.ref 33, .int x1, .int x2, .int x3, .int x4, .int x5, .int x6, .int x7, .int (mem 42 (((256 * x6) + x7).toNatClampNeg)), d9] [.int z0] mem Q) (zbN_f (h)) kp29
      have kp26 : pm_Ex ro m_X10_boughtOf 81 [.ref 33, .int x1, .int x2, .int x3, .int x4, .int x5, .int x6, .int x7, .int (mem 42 (((256 * x6) + x7).toNatClampNeg)), d9] [.int (zb (¬ (100000000 ≤ (mem 42 (((256 * x6) + x7).toNatClampNeg)))))] mem Q := by
        exact kp29b
      refine ex_many (pc' := 73) (ls' := [.ref 33, .int x1, .int x2, .int x3, .int x4, .int x5, .int x6, .int x7, .int (mem 42 (((256 * x6) + x7).toNatClampNeg)), d9]) (st' := [.int 100000000, .int (mem 42 (((256 * x6) + x7).toNatClampNeg))]) (mem' := mem) hS hC 2 rfl ?_
      refine ex_br (P := 100000000 ≤ (mem 42 (((256 * x6) + x7).toNatClampNeg))) (a := 80) (b := 76) (ls' := [.ref 33, .int x1, .int x2, .int x3, .int x4, .int x5, .int x6, .int x7, .int (mem 42 (((256 * x6) + x7).toNatClampNeg)), d9]) (st' := []) (mem' := mem) hS hC rfl (fun h => ?_) (fun h => ?_)
      · have kp26a : pm_Ex ro m_X10_boughtOf 81 [.ref 33, .int x1, .int x2, .int x3, .int x4, .int x5, .int x6, .int x7, .int (mem 42 (((256 * x6) + x7).toNatClampNeg)), d9] [.int 0] mem Q := pm_phi1 (f := fun z0 => pm_Ex ro m_X10_boughtOf 81 [.ref 33, .int x1, .int x2, .int x3, .int x4, .int x5, .int x6, .int x7, .int (mem 42 (((256 * x6) + x7).toNatClampNeg)), d9] [.int z0] mem Q) (zb_npos (h)) kp26
        refine ex_many (pc' := 81) (ls' := [.ref 33, .int x1, .int x2, .int x3, .int x4, .int x5, .int x6, .int x7, .int (mem 42 (((256 * x6) + x7).toNatClampNeg)), d9]) (st' := [.int 0]) (mem' := mem) hS hC 1 rfl ?_
        exact kp26a
      · have kp26b : pm_Ex ro m_X10_boughtOf 81 [.ref 33, .int x1, .int x2, .int x3, .int x4, .int x5, .int x6, .int x7, .int (mem 42 (((256 * x6) + x7).toNatClampNeg)), d9] [.int 1] mem Q := pm_phi1 (f := fun z0 => pm_Ex ro m_X10_boughtOf 81 [.ref 33, .int x1, .int x2, .int x3, .int x4, .int x5, .int x6, .int x7, .int (mem 42 (((256 * x6) + x7).toNatClampNeg)), d9] [.int z0] mem Q) (zb_nneg (h)) kp26
        refine ex_many (pc' := 81) (ls' := [.ref 33, .int x1, .int x2, .int x3, .int x4, .int x5, .int x6, .int x7, .int (mem 42 (((256 * x6) + x7).toNatClampNeg)), d9]) (st' := [.int 1]) (mem' := mem) hS hC 2 rfl ?_
        exact kp26b

set_option maxRecDepth 20000 in
theorem bk_X10_boughtOf_4 {ro : pm_RO} {Q : Option Value → pm_M → Prop} {mem : pm_M} {x1 : Int32} (k : pm_Ex ro m_X10_boughtOf 18 [.ref 33, .int x1, .int 100000000, .int 0, .int 0, .int (-1), .int 0, .null, .null, .null] [] mem Q) : pm_Ex ro m_X10_boughtOf 4 [.ref 33, .int x1, .null, .null, .null, .null, .null, .null, .null, .null] [] mem Q := by
  have hS : pm_sig[m_X10_boughtOf]? = some _ := rfl
  have hC : pm_cod[m_X10_boughtOf]? = some _ := rfl
  refine ex_many (pc' := 18) (ls' := [.ref 33, .int x1, .int 100000000, .int 0, .int 0, .int (-1), .int 0, .null, .null, .null]) (st' := []) (mem' := mem) hS hC 10 rfl ?_
  exact k

set_option maxRecDepth 20000 in
theorem bk_X10_bought_0 {ro : pm_RO} {Q : Option Value → pm_M → Prop} {mem : pm_M} {a1 : Int32} (k : pm_Ex ro m_X10_reads 0 [.ref 33, .null] [] mem (fun v m => pm_Ex ro m_X10_bought 4 [.ref 33, .int a1] (v.toList ++ []) m Q)) : pm_Ex ro m_X10_bought 0 [.ref 33, .int a1] [] mem Q := by
  have hS : pm_sig[m_X10_bought]? = some _ := rfl
  have hC : pm_cod[m_X10_bought]? = some _ := rfl
  refine ex_many (pc' := 1) (ls' := [.ref 33, .int a1]) (st' := [.ref 33]) (mem' := mem) hS hC 1 rfl ?_
  refine ex_call (y' := m_X10_reads) (rest := []) (ent := [.ref 33, .null]) hS hC rfl rfl rfl rfl rfl rfl ?_
  exact k

set_option maxRecDepth 20000 in
theorem bk_X10_bought_4 {ro : pm_RO} {Q : Option Value → pm_M → Prop} {mem : pm_M} {x1 s0 : Int32} (k : (0 ≤ x1 ∧ x1 ≤ 3 → pm_Ex ro m_X10_boughtOf 0 [.ref 33, .int x1, .null, .null, .null, .null, .null, .null, .null, .null] [] mem (fun v m => pm_Ex ro m_X10_bought 22 [.ref 33, .int x1] (v.toList ++ []) m Q)) ∧ (¬ (0 ≤ x1 ∧ x1 ≤ 3) → Q (some (.int (-2))) mem)) : pm_Ex ro m_X10_bought 4 [.ref 33, .int x1] [.int s0] mem Q := by
  have hS : pm_sig[m_X10_bought]? = some _ := rfl
  have hC : pm_cod[m_X10_bought]? = some _ := rfl
  refine ex_many (pc' := 11) (ls' := [.ref 33, .int x1]) (st' := [.long 3, .long 0, .long x1.toInt64]) (mem' := mem) hS hC 5 rfl ?_
  refine ex_call (y' := m_X10_in) (rest := []) (ent := [.long x1.toInt64, .null, .long 0, .null, .long 3, .null]) hS hC rfl rfl rfl rfl rfl rfl ?_
  refine sp_in32 (v := x1) (lo := 0) (hi := 3) (by decide) (by decide) ?_
  show pm_Ex ro m_X10_bought 14 [.ref 33, .int x1] [.int (zb (0 ≤ x1 ∧ x1 ≤ 3))] mem Q
  refine ex_br (P := (zb (0 ≤ x1 ∧ x1 ≤ 3)) = 0) (a := 25) (b := 17) (ls' := [.ref 33, .int x1]) (st' := []) (mem' := mem) hS hC rfl (fun h => ?_) (fun h => ?_)
  · replace k := k.2 (zb0 h)
    refine ex_many (pc' := 27) (ls' := [.ref 33, .int x1]) (st' := [.int (-2)]) (mem' := mem) hS hC 1 rfl ?_
    exact ex_ret (v := (some (.int (-2)))) hS hC rfl rfl rfl k
  · replace k := k.1 (zb1 h)
    refine ex_many (pc' := 19) (ls' := [.ref 33, .int x1]) (st' := [.int x1, .ref 33]) (mem' := mem) hS hC 2 rfl ?_
    refine ex_call (y' := m_X10_boughtOf) (rest := []) (ent := [.ref 33, .int x1, .null, .null, .null, .null, .null, .null, .null, .null]) hS hC rfl rfl rfl rfl rfl rfl ?_
    exact k

set_option maxRecDepth 20000 in
theorem bk_X10_bought_22 {ro : pm_RO} {Q : Option Value → pm_M → Prop} {mem : pm_M} {x1 s0 : Int32} (k : Q (some (.int s0)) mem) : pm_Ex ro m_X10_bought 22 [.ref 33, .int x1] [.int s0] mem Q := by
  have hS : pm_sig[m_X10_bought]? = some _ := rfl
  have hC : pm_cod[m_X10_bought]? = some _ := rfl
  refine ex_many (pc' := 27) (ls' := [.ref 33, .int x1]) (st' := [.int s0]) (mem' := mem) hS hC 1 rfl ?_
  exact ex_ret (v := (some (.int s0))) hS hC rfl rfl rfl k

set_option maxRecDepth 20000 in
theorem bk_X10_addedTo_0 {ro : pm_RO} {Q : Option Value → pm_M → Prop} {mem : pm_M} {a1 : Int32} (k : pm_Ex ro m_X10_addedTo 4 [.ref 33, .int a1, .int 0, .int 1] [] mem Q) : pm_Ex ro m_X10_addedTo 0 [.ref 33, .int a1, .null, .null] [] mem Q := by
  have hS : pm_sig[m_X10_addedTo]? = some _ := rfl
  have hC : pm_cod[m_X10_addedTo]? = some _ := rfl
  refine ex_many (pc' := 4) (ls' := [.ref 33, .int a1, .int 0, .int 1]) (st' := []) (mem' := mem) hS hC 4 rfl ?_
  exact k

set_option maxRecDepth 20000 in
theorem bk_X10_addedTo_4 {ro : pm_RO} {Q : Option Value → pm_M → Prop} {mem : pm_M} {x1 x2 x3 : Int32} (k : (100 ≤ x3 → Q (some (.int x2)) mem) ∧ (¬ (100 ≤ x3) → pm_Ex ro m_X10_paidFor 0 [.ref 33, .int (x1 + x3), .null, .null, .null, .null] [] mem (fun v m => pm_Ex ro m_X10_addedTo 17 [.ref 33, .int x1, .int x2, .int x3] (v.toList ++ []) m Q))) : pm_Ex ro m_X10_addedTo 4 [.ref 33, .int x1, .int x2, .int x3] [] mem Q := by
  have hS : pm_sig[m_X10_addedTo]? = some _ := rfl
  have hC : pm_cod[m_X10_addedTo]? = some _ := rfl
  refine ex_many (pc' := 7) (ls' := [.ref 33, .int x1, .int x2, .int x3]) (st' := [.int 100, .int x3]) (mem' := mem) hS hC 2 rfl ?_
  refine ex_br (P := 100 ≤ x3) (a := 39) (b := 10) (ls' := [.ref 33, .int x1, .int x2, .int x3]) (st' := []) (mem' := mem) hS hC rfl (fun h => ?_) (fun h => ?_)
  · replace k := k.1 (h)
    refine ex_many (pc' := 40) (ls' := [.ref 33, .int x1, .int x2, .int x3]) (st' := [.int x2]) (mem' := mem) hS hC 1 rfl ?_
    exact ex_ret (v := (some (.int x2))) hS hC rfl rfl rfl k
  · replace k := k.2 (h)
    refine ex_many (pc' := 14) (ls' := [.ref 33, .int x1, .int x2, .int x3]) (st' := [.int (x1 + x3), .ref 33]) (mem' := mem) hS hC 4 rfl ?_
    refine ex_call (y' := m_X10_paidFor) (rest := []) (ent := [.ref 33, .int (x1 + x3), .null, .null, .null, .null]) hS hC rfl rfl rfl rfl rfl rfl ?_
    exact k

set_option maxRecDepth 20000 in
theorem bk_X10_addedTo_17 {ro : pm_RO} {Q : Option Value → pm_M → Prop} {mem : pm_M} {x1 x2 x3 s0 : Int32} (k : pm_Ex ro m_X10_paidFor 0 [.ref 33, .int (x1 + x2), .null, .null, .null, .null] [] mem (fun v m => pm_Ex ro m_X10_addedTo 24 [.ref 33, .int x1, .int x2, .int x3] (v.toList ++ [.int s0]) m Q)) : pm_Ex ro m_X10_addedTo 17 [.ref 33, .int x1, .int x2, .int x3] [.int s0] mem Q := by
  have hS : pm_sig[m_X10_addedTo]? = some _ := rfl
  have hC : pm_cod[m_X10_addedTo]? = some _ := rfl
  refine ex_many (pc' := 21) (ls' := [.ref 33, .int x1, .int x2, .int x3]) (st' := [.int (x1 + x2), .ref 33, .int s0]) (mem' := mem) hS hC 4 rfl ?_
  refine ex_call (y' := m_X10_paidFor) (rest := [.int s0]) (ent := [.ref 33, .int (x1 + x2), .null, .null, .null, .null]) hS hC rfl rfl rfl rfl rfl rfl ?_
  exact k

set_option maxRecDepth 20000 in
theorem bk_X10_addedTo_24 {ro : pm_RO} {Q : Option Value → pm_M → Prop} {mem : pm_M} {x1 x2 x3 s0 s1 : Int32} (k : pm_Ex ro m_X10_addedTo 4 [.ref 33, .int x1, .int (if s0 ≤ s1 then x2 else x3 : Int32), .int (x3 + 1)] [] mem Q) : pm_Ex ro m_X10_addedTo 24 [.ref 33, .int x1, .int x2, .int x3] [.int s0, .int s1] mem Q := by
  have hS : pm_sig[m_X10_addedTo]? = some _ := rfl
  have hC : pm_cod[m_X10_addedTo]? = some _ := rfl
  have kp30 : pm_Ex ro m_X10_addedTo 32 [.ref 33, .int x1, .int x2, .int x3] [.int (if s0 ≤ s1 then x2 else x3 : Int32)] mem Q := by
    refine ex_many (pc' := 4) (ls' := [.ref 33, .int x1, .int (if s0 ≤ s1 then x2 else x3 : Int32), .int (x3 + 1)]) (st' := []) (mem' := mem) hS hC 3 rfl ?_
    exact k
  refine ex_br (P := s0 ≤ s1) (a := 31) (b := 27) (ls' := [.ref 33, .int x1, .int x2, .int x3]) (st' := []) (mem' := mem) hS hC rfl (fun h => ?_) (fun h => ?_)
  · have kp30a : pm_Ex ro m_X10_addedTo 32 [.ref 33, .int x1, .int x2, .int x3] [.int x2] mem Q := pm_phi1 (f := fun z0 => pm_Ex ro m_X10_addedTo 32 [.ref 33, .int x1, .int x2, .int x3] [.int z0] mem Q) (if_pos (h)) kp30
    refine ex_many (pc' := 32) (ls' := [.ref 33, .int x1, .int x2, .int x3]) (st' := [.int x2]) (mem' := mem) hS hC 1 rfl ?_
    exact kp30a
  · have kp30b : pm_Ex ro m_X10_addedTo 32 [.ref 33, .int x1, .int x2, .int x3] [.int x3] mem Q := pm_phi1 (f := fun z0 => pm_Ex ro m_X10_addedTo 32 [.ref 33, .int x1, .int x2, .int x3] [.int z0] mem Q) (if_neg (h)) kp30
    refine ex_many (pc' := 32) (ls' := [.ref 33, .int x1, .int x2, .int x3]) (st' := [.int x3]) (mem' := mem) hS hC 2 rfl ?_
    exact kp30b

set_option maxRecDepth 20000 in
theorem bk_X10_added_0 {ro : pm_RO} {Q : Option Value → pm_M → Prop} {mem : pm_M} {a1 : Int32} (k : (0 ≤ a1 ∧ a1 ≤ 9999 → pm_Ex ro m_X10_addedTo 0 [.ref 33, .int a1, .null, .null] [] mem (fun v m => pm_Ex ro m_X10_added 12 [.ref 33, .int a1] (v.toList ++ []) m Q)) ∧ (¬ (0 ≤ a1 ∧ a1 ≤ 9999) → Q (some (.int (-2))) mem)) : pm_Ex ro m_X10_added 0 [.ref 33, .int a1] [] mem Q := by
  have hS : pm_sig[m_X10_added]? = some _ := rfl
  have hC : pm_cod[m_X10_added]? = some _ := rfl
  refine ex_many (pc' := 1) (ls' := [.ref 33, .int a1]) (st' := [.int a1]) (mem' := mem) hS hC 1 rfl ?_
  refine ex_call (y' := m_X10_isNumber) (rest := []) (ent := [.int a1]) hS hC rfl rfl rfl rfl rfl rfl ?_
  refine bk_X10_isNumber_0 ?_
  show pm_Ex ro m_X10_added 4 [.ref 33, .int a1] [.int (zb (0 ≤ a1 ∧ a1 ≤ 9999))] mem Q
  refine ex_br (P := (zb (0 ≤ a1 ∧ a1 ≤ 9999)) = 0) (a := 15) (b := 7) (ls' := [.ref 33, .int a1]) (st' := []) (mem' := mem) hS hC rfl (fun h => ?_) (fun h => ?_)
  · replace k := k.2 (zb0 h)
    refine ex_many (pc' := 17) (ls' := [.ref 33, .int a1]) (st' := [.int (-2)]) (mem' := mem) hS hC 1 rfl ?_
    exact ex_ret (v := (some (.int (-2)))) hS hC rfl rfl rfl k
  · replace k := k.1 (zb1 h)
    refine ex_many (pc' := 9) (ls' := [.ref 33, .int a1]) (st' := [.int a1, .ref 33]) (mem' := mem) hS hC 2 rfl ?_
    refine ex_call (y' := m_X10_addedTo) (rest := []) (ent := [.ref 33, .int a1, .null, .null]) hS hC rfl rfl rfl rfl rfl rfl ?_
    exact k

set_option maxRecDepth 20000 in
theorem bk_X10_added_12 {ro : pm_RO} {Q : Option Value → pm_M → Prop} {mem : pm_M} {x1 s0 : Int32} (k : Q (some (.int s0)) mem) : pm_Ex ro m_X10_added 12 [.ref 33, .int x1] [.int s0] mem Q := by
  have hS : pm_sig[m_X10_added]? = some _ := rfl
  have hC : pm_cod[m_X10_added]? = some _ := rfl
  refine ex_many (pc' := 17) (ls' := [.ref 33, .int x1]) (st' := [.int s0]) (mem' := mem) hS hC 1 rfl ?_
  exact ex_ret (v := (some (.int s0))) hS hC rfl rfl rfl k

set_option maxRecDepth 20000 in
theorem bk_X10_gainBy_0 {ro : pm_RO} {Q : Option Value → pm_M → Prop} {mem : pm_M} {a1 : Int32} (k : pm_Ex ro m_X10_sumOf 0 [.ref 33, .int a1, .null, .null] [] mem (fun v m => pm_Ex ro m_X10_gainBy 5 [.ref 33, .int a1] (v.toList ++ []) m Q)) : pm_Ex ro m_X10_gainBy 0 [.ref 33, .int a1] [] mem Q := by
  have hS : pm_sig[m_X10_gainBy]? = some _ := rfl
  have hC : pm_cod[m_X10_gainBy]? = some _ := rfl
  refine ex_many (pc' := 2) (ls' := [.ref 33, .int a1]) (st' := [.int a1, .ref 33]) (mem' := mem) hS hC 2 rfl ?_
  refine ex_call (y' := m_X10_sumOf) (rest := []) (ent := [.ref 33, .int a1, .null, .null]) hS hC rfl rfl rfl rfl rfl rfl ?_
  exact k

set_option maxRecDepth 20000 in
theorem bk_X10_gainBy_5 {ro : pm_RO} {Q : Option Value → pm_M → Prop} {mem : pm_M} {x1 s0 : Int32} (k : pm_Ex ro m_X10_sumOf 0 [.ref 33, .int x1, .null, .null] [] mem (fun v m => pm_Ex ro m_X10_gainBy 11 [.ref 33, .int x1] (v.toList ++ [.ref 33, .int s0]) m Q)) : pm_Ex ro m_X10_gainBy 5 [.ref 33, .int x1] [.int s0] mem Q := by
  have hS : pm_sig[m_X10_gainBy]? = some _ := rfl
  have hC : pm_cod[m_X10_gainBy]? = some _ := rfl
  refine ex_many (pc' := 8) (ls' := [.ref 33, .int x1]) (st' := [.int x1, .ref 33, .ref 33, .int s0]) (mem' := mem) hS hC 3 rfl ?_
  refine ex_call (y' := m_X10_sumOf) (rest := [.ref 33, .int s0]) (ent := [.ref 33, .int x1, .null, .null]) hS hC rfl rfl rfl rfl rfl rfl ?_
  exact k

set_option maxRecDepth 20000 in
theorem bk_X10_gainBy_11 {ro : pm_RO} {Q : Option Value → pm_M → Prop} {mem : pm_M} {x1 s0 s2 : Int32} (k : pm_Ex ro m_X10_paidFor 0 [.ref 33, .int s0, .null, .null, .null, .null] [] mem (fun v m => pm_Ex ro m_X10_gainBy 14 [.ref 33, .int x1] (v.toList ++ [.int s2]) m Q)) : pm_Ex ro m_X10_gainBy 11 [.ref 33, .int x1] [.int s0, .ref 33, .int s2] mem Q := by
  have hS : pm_sig[m_X10_gainBy]? = some _ := rfl
  have hC : pm_cod[m_X10_gainBy]? = some _ := rfl
  refine ex_call (y' := m_X10_paidFor) (rest := [.int s2]) (ent := [.ref 33, .int s0, .null, .null, .null, .null]) hS hC rfl rfl rfl rfl rfl rfl ?_
  exact k

set_option maxRecDepth 20000 in
theorem bk_X10_gainBy_14 {ro : pm_RO} {Q : Option Value → pm_M → Prop} {mem : pm_M} {x1 s0 s1 : Int32} (k : Q (some (.int (s1 - s0))) mem) : pm_Ex ro m_X10_gainBy 14 [.ref 33, .int x1] [.int s0, .int s1] mem Q := by
  have hS : pm_sig[m_X10_gainBy]? = some _ := rfl
  have hC : pm_cod[m_X10_gainBy]? = some _ := rfl
  refine ex_many (pc' := 15) (ls' := [.ref 33, .int x1]) (st' := [.int (s1 - s0)]) (mem' := mem) hS hC 1 rfl ?_
  exact ex_ret (v := (some (.int (s1 - s0)))) hS hC rfl rfl rfl k

set_option maxRecDepth 20000 in
theorem bk_X10_proofOf_0 {ro : pm_RO} {Q : Option Value → pm_M → Prop} {mem : pm_M} {a1 a2 : Int32} (k : pm_Ex ro m_X10_proofOf 5 [.ref 33, .int a1, .int a2, .int (-1), .int 1] [] mem Q) : pm_Ex ro m_X10_proofOf 0 [.ref 33, .int a1, .int a2, .null, .null] [] mem Q := by
  have hS : pm_sig[m_X10_proofOf]? = some _ := rfl
  have hC : pm_cod[m_X10_proofOf]? = some _ := rfl
  refine ex_many (pc' := 5) (ls' := [.ref 33, .int a1, .int a2, .int (-1), .int 1]) (st' := []) (mem' := mem) hS hC 4 rfl ?_
  exact k

set_option maxRecDepth 20000 in
theorem bk_X10_proofOf_5 {ro : pm_RO} {Q : Option Value → pm_M → Prop} {mem : pm_M} {x1 x2 x3 x4 : Int32} (k : ((((1 : Int32) <<< ((mem 33 8) &&& 31)) - 1) < x4 → (¬ x3 = (-1) → (¬ x2 = 0 → Q (some (.int x3)) mem) ∧ (¬ (¬ x2 = 0) → pm_Ex ro m_X10_gainBy 0 [.ref 33, .int x3] [] mem (fun v m => pm_Ex ro m_X10_proofOf 74 [.ref 33, .int x1, .int x2, .int x3, .int x4] (v.toList ++ []) m Q))) ∧ (¬ (¬ x3 = (-1)) → Q (some (.int (-100003))) mem)) ∧ (¬ ((((1 : Int32) <<< ((mem 33 8) &&& 31)) - 1) < x4) → pm_Ex ro m_X10_ones 0 [.int x4, .null, .null] [] mem (fun v m => pm_Ex ro m_X10_proofOf 19 [.ref 33, .int x1, .int x2, .int x3, .int x4] (v.toList ++ []) m Q))) : pm_Ex ro m_X10_proofOf 5 [.ref 33, .int x1, .int x2, .int x3, .int x4] [] mem Q := by
  have hS : pm_sig[m_X10_proofOf]? = some _ := rfl
  have hC : pm_cod[m_X10_proofOf]? = some _ := rfl
  refine ex_many (pc' := 8) (ls' := [.ref 33, .int x1, .int x2, .int x3, .int x4]) (st' := [.ref 33, .int x4]) (mem' := mem) hS hC 2 rfl ?_
  refine ex_call (y' := m_X10_whole) (rest := [.int x4]) (ent := [.ref 33]) hS hC rfl rfl rfl rfl rfl rfl ?_
  refine bk_X10_whole_0 ?_
  show pm_Ex ro m_X10_proofOf 11 [.ref 33, .int x1, .int x2, .int x3, .int x4] [.int (((1 : Int32) <<< ((mem 33 8) &&& 31)) - 1), .int x4] mem Q
  refine ex_br (P := (((1 : Int32) <<< ((mem 33 8) &&& 31)) - 1) < x4) (a := 55) (b := 14) (ls' := [.ref 33, .int x1, .int x2, .int x3, .int x4]) (st' := []) (mem' := mem) hS hC rfl (fun h => ?_) (fun h => ?_)
  · replace k := k.1 (h)
    refine ex_many (pc' := 57) (ls' := [.ref 33, .int x1, .int x2, .int x3, .int x4]) (st' := [.int (-1), .int x3]) (mem' := mem) hS hC 2 rfl ?_
    refine ex_br (P := ¬ x3 = (-1)) (a := 65) (b := 60) (ls' := [.ref 33, .int x1, .int x2, .int x3, .int x4]) (st' := []) (mem' := mem) hS hC rfl (fun h => ?_) (fun h => ?_)
    · replace k := k.1 (h)
      refine ex_many (pc' := 66) (ls' := [.ref 33, .int x1, .int x2, .int x3, .int x4]) (st' := [.int x2]) (mem' := mem) hS hC 1 rfl ?_
      refine ex_br (P := ¬ x2 = 0) (a := 77) (b := 69) (ls' := [.ref 33, .int x1, .int x2, .int x3, .int x4]) (st' := []) (mem' := mem) hS hC rfl (fun h => ?_) (fun h => ?_)
      · replace k := k.1 (h)
        refine ex_many (pc' := 78) (ls' := [.ref 33, .int x1, .int x2, .int x3, .int x4]) (st' := [.int x3]) (mem' := mem) hS hC 1 rfl ?_
        exact ex_ret (v := (some (.int x3))) hS hC rfl rfl rfl k
      · replace k := k.2 (h)
        refine ex_many (pc' := 71) (ls' := [.ref 33, .int x1, .int x2, .int x3, .int x4]) (st' := [.int x3, .ref 33]) (mem' := mem) hS hC 2 rfl ?_
        refine ex_call (y' := m_X10_gainBy) (rest := []) (ent := [.ref 33, .int x3]) hS hC rfl rfl rfl rfl rfl rfl ?_
        exact k
    · replace k := k.2 (h)
      refine ex_many (pc' := 78) (ls' := [.ref 33, .int x1, .int x2, .int x3, .int x4]) (st' := [.int (-100003)]) (mem' := mem) hS hC 2 rfl ?_
      exact ex_ret (v := (some (.int (-100003)))) hS hC rfl rfl rfl k
  · replace k := k.2 (h)
    refine ex_many (pc' := 16) (ls' := [.ref 33, .int x1, .int x2, .int x3, .int x4]) (st' := [.int x4]) (mem' := mem) hS hC 1 rfl ?_
    refine ex_call (y' := m_X10_ones) (rest := []) (ent := [.int x4, .null, .null]) hS hC rfl rfl rfl rfl rfl rfl ?_
    exact k

set_option maxRecDepth 20000 in
theorem bk_X10_proofOf_19 {ro : pm_RO} {Q : Option Value → pm_M → Prop} {mem : pm_M} {x1 x2 x3 x4 s0 : Int32} (k : (x1 < s0 → pm_Ex ro m_X10_proofOf 5 [.ref 33, .int x1, .int x2, .int x3, .int (x4 + 1)] [] mem Q) ∧ (¬ (x1 < s0) → (x3 = (-1) → pm_Ex ro m_X10_proofOf 5 [.ref 33, .int x1, .int x2, .int x4, .int (x4 + 1)] [] mem Q) ∧ (¬ (x3 = (-1)) → pm_Ex ro m_X10_gainBy 0 [.ref 33, .int x4] [] mem (fun v m => pm_Ex ro m_X10_proofOf 34 [.ref 33, .int x1, .int x2, .int x3, .int x4] (v.toList ++ []) m Q)))) : pm_Ex ro m_X10_proofOf 19 [.ref 33, .int x1, .int x2, .int x3, .int x4] [.int s0] mem Q := by
  have hS : pm_sig[m_X10_proofOf]? = some _ := rfl
  have hC : pm_cod[m_X10_proofOf]? = some _ := rfl
  refine ex_many (pc' := 20) (ls' := [.ref 33, .int x1, .int x2, .int x3, .int x4]) (st' := [.int x1, .int s0]) (mem' := mem) hS hC 1 rfl ?_
  refine ex_br (P := x1 < s0) (a := 47) (b := 23) (ls' := [.ref 33, .int x1, .int x2, .int x3, .int x4]) (st' := []) (mem' := mem) hS hC rfl (fun h => ?_) (fun h => ?_)
  · replace k := k.1 (h)
    refine ex_many (pc' := 5) (ls' := [.ref 33, .int x1, .int x2, .int x3, .int (x4 + 1)]) (st' := []) (mem' := mem) hS hC 4 rfl ?_
    exact k
  · replace k := k.2 (h)
    refine ex_many (pc' := 25) (ls' := [.ref 33, .int x1, .int x2, .int x3, .int x4]) (st' := [.int (-1), .int x3]) (mem' := mem) hS hC 2 rfl ?_
    refine ex_br (P := x3 = (-1)) (a := 42) (b := 28) (ls' := [.ref 33, .int x1, .int x2, .int x3, .int x4]) (st' := []) (mem' := mem) hS hC rfl (fun h => ?_) (fun h => ?_)
    · replace k := k.1 (h)
      refine ex_many (pc' := 5) (ls' := [.ref 33, .int x1, .int x2, .int x4, .int (x4 + 1)]) (st' := []) (mem' := mem) hS hC 5 rfl ?_
      exact k
    · replace k := k.2 (h)
      refine ex_many (pc' := 31) (ls' := [.ref 33, .int x1, .int x2, .int x3, .int x4]) (st' := [.int x4, .ref 33]) (mem' := mem) hS hC 2 rfl ?_
      refine ex_call (y' := m_X10_gainBy) (rest := []) (ent := [.ref 33, .int x4]) hS hC rfl rfl rfl rfl rfl rfl ?_
      exact k

set_option maxRecDepth 20000 in
theorem bk_X10_proofOf_74 {ro : pm_RO} {Q : Option Value → pm_M → Prop} {mem : pm_M} {x1 x2 x3 x4 s0 : Int32} (k : Q (some (.int s0)) mem) : pm_Ex ro m_X10_proofOf 74 [.ref 33, .int x1, .int x2, .int x3, .int x4] [.int s0] mem Q := by
  have hS : pm_sig[m_X10_proofOf]? = some _ := rfl
  have hC : pm_cod[m_X10_proofOf]? = some _ := rfl
  refine ex_many (pc' := 78) (ls' := [.ref 33, .int x1, .int x2, .int x3, .int x4]) (st' := [.int s0]) (mem' := mem) hS hC 1 rfl ?_
  exact ex_ret (v := (some (.int s0))) hS hC rfl rfl rfl k

set_option maxRecDepth 20000 in
theorem bk_X10_proofOf_34 {ro : pm_RO} {Q : Option Value → pm_M → Prop} {mem : pm_M} {x1 x2 x3 x4 s0 : Int32} (k : pm_Ex ro m_X10_gainBy 0 [.ref 33, .int x3] [] mem (fun v m => pm_Ex ro m_X10_proofOf 39 [.ref 33, .int x1, .int x2, .int x3, .int x4] (v.toList ++ [.int s0]) m Q)) : pm_Ex ro m_X10_proofOf 34 [.ref 33, .int x1, .int x2, .int x3, .int x4] [.int s0] mem Q := by
  have hS : pm_sig[m_X10_proofOf]? = some _ := rfl
  have hC : pm_cod[m_X10_proofOf]? = some _ := rfl
  refine ex_many (pc' := 36) (ls' := [.ref 33, .int x1, .int x2, .int x3, .int x4]) (st' := [.int x3, .ref 33, .int s0]) (mem' := mem) hS hC 2 rfl ?_
  refine ex_call (y' := m_X10_gainBy) (rest := [.int s0]) (ent := [.ref 33, .int x3]) hS hC rfl rfl rfl rfl rfl rfl ?_
  exact k

set_option maxRecDepth 20000 in
theorem bk_X10_proofOf_39 {ro : pm_RO} {Q : Option Value → pm_M → Prop} {mem : pm_M} {x1 x2 x3 x4 s0 s1 : Int32} (k : pm_Ex ro m_X10_proofOf 5 [.ref 33, .int x1, .int x2, .int (if s1 ≤ s0 then x3 else x4 : Int32), .int (x4 + 1)] [] mem Q) : pm_Ex ro m_X10_proofOf 39 [.ref 33, .int x1, .int x2, .int x3, .int x4] [.int s0, .int s1] mem Q := by
  have hS : pm_sig[m_X10_proofOf]? = some _ := rfl
  have hC : pm_cod[m_X10_proofOf]? = some _ := rfl
  have kp31 : pm_Ex ro m_X10_proofOf 48 [.ref 33, .int x1, .int x2, .int x3, .int x4] [.int (if s1 ≤ s0 then x3 else x4 : Int32)] mem Q := by
    refine ex_many (pc' := 5) (ls' := [.ref 33, .int x1, .int x2, .int (if s1 ≤ s0 then x3 else x4 : Int32), .int (x4 + 1)]) (st' := []) (mem' := mem) hS hC 3 rfl ?_
    exact k
  refine ex_br (P := s1 ≤ s0) (a := 47) (b := 42) (ls' := [.ref 33, .int x1, .int x2, .int x3, .int x4]) (st' := []) (mem' := mem) hS hC rfl (fun h => ?_) (fun h => ?_)
  · have kp31a : pm_Ex ro m_X10_proofOf 48 [.ref 33, .int x1, .int x2, .int x3, .int x4] [.int x3] mem Q := pm_phi1 (f := fun z0 => pm_Ex ro m_X10_proofOf 48 [.ref 33, .int x1, .int x2, .int x3, .int x4] [.int z0] mem Q) (if_pos (h)) kp31
    refine ex_many (pc' := 48) (ls' := [.ref 33, .int x1, .int x2, .int x3, .int x4]) (st' := [.int x3]) (mem' := mem) hS hC 1 rfl ?_
    exact kp31a
  · have kp31b : pm_Ex ro m_X10_proofOf 48 [.ref 33, .int x1, .int x2, .int x3, .int x4] [.int x4] mem Q := pm_phi1 (f := fun z0 => pm_Ex ro m_X10_proofOf 48 [.ref 33, .int x1, .int x2, .int x3, .int x4] [.int z0] mem Q) (if_neg (h)) kp31
    refine ex_many (pc' := 48) (ls' := [.ref 33, .int x1, .int x2, .int x3, .int x4]) (st' := [.int x4]) (mem' := mem) hS hC 2 rfl ?_
    exact kp31b

set_option maxRecDepth 20000 in
theorem bk_X10_proof_0 {ro : pm_RO} {Q : Option Value → pm_M → Prop} {mem : pm_M} {a1 a2 : Int32} (k : pm_Ex ro m_X10_reads 0 [.ref 33, .null] [] mem (fun v m => pm_Ex ro m_X10_proof 4 [.ref 33, .int a1, .int a2] (v.toList ++ []) m Q)) : pm_Ex ro m_X10_proof 0 [.ref 33, .int a1, .int a2] [] mem Q := by
  have hS : pm_sig[m_X10_proof]? = some _ := rfl
  have hC : pm_cod[m_X10_proof]? = some _ := rfl
  refine ex_many (pc' := 1) (ls' := [.ref 33, .int a1, .int a2]) (st' := [.ref 33]) (mem' := mem) hS hC 1 rfl ?_
  refine ex_call (y' := m_X10_reads) (rest := []) (ent := [.ref 33, .null]) hS hC rfl rfl rfl rfl rfl rfl ?_
  exact k

set_option maxRecDepth 20000 in
theorem bk_X10_proof_4 {ro : pm_RO} {Q : Option Value → pm_M → Prop} {mem : pm_M} {x1 x2 s0 : Int32} (k : (1 ≤ x1 ∧ x1 ≤ 8 → (0 ≤ x2 ∧ x2 ≤ 1 → pm_Ex ro m_X10_proofOf 0 [.ref 33, .int x1, .int x2, .null, .null] [] mem (fun v m => pm_Ex ro m_X10_proof 30 [.ref 33, .int x1, .int x2] (v.toList ++ []) m Q)) ∧ (¬ (0 ≤ x2 ∧ x2 ≤ 1) → Q (some (.int (-100002))) mem)) ∧ (¬ (1 ≤ x1 ∧ x1 ≤ 8) → Q (some (.int (-100002))) mem)) : pm_Ex ro m_X10_proof 4 [.ref 33, .int x1, .int x2] [.int s0] mem Q := by
  have hS : pm_sig[m_X10_proof]? = some _ := rfl
  have hC : pm_cod[m_X10_proof]? = some _ := rfl
  refine ex_many (pc' := 11) (ls' := [.ref 33, .int x1, .int x2]) (st' := [.long 8, .long 1, .long x1.toInt64]) (mem' := mem) hS hC 5 rfl ?_
  refine ex_call (y' := m_X10_in) (rest := []) (ent := [.long x1.toInt64, .null, .long 1, .null, .long 8, .null]) hS hC rfl rfl rfl rfl rfl rfl ?_
  refine sp_in32 (v := x1) (lo := 1) (hi := 8) (by decide) (by decide) ?_
  show pm_Ex ro m_X10_proof 14 [.ref 33, .int x1, .int x2] [.int (zb (1 ≤ x1 ∧ x1 ≤ 8))] mem Q
  refine ex_br (P := (zb (1 ≤ x1 ∧ x1 ≤ 8)) = 0) (a := 33) (b := 17) (ls' := [.ref 33, .int x1, .int x2]) (st' := []) (mem' := mem) hS hC rfl (fun h => ?_) (fun h => ?_)
  · replace k := k.2 (zb0 h)
    refine ex_many (pc' := 35) (ls' := [.ref 33, .int x1, .int x2]) (st' := [.int (-100002)]) (mem' := mem) hS hC 1 rfl ?_
    exact ex_ret (v := (some (.int (-100002)))) hS hC rfl rfl rfl k
  · replace k := k.1 (zb1 h)
    refine ex_many (pc' := 18) (ls' := [.ref 33, .int x1, .int x2]) (st' := [.int x2]) (mem' := mem) hS hC 1 rfl ?_
    refine ex_call (y' := m_X10_isTwo) (rest := []) (ent := [.int x2]) hS hC rfl rfl rfl rfl rfl rfl ?_
    refine bk_X10_isTwo_0 ?_
    show pm_Ex ro m_X10_proof 21 [.ref 33, .int x1, .int x2] [.int (zb (0 ≤ x2 ∧ x2 ≤ 1))] mem Q
    refine ex_br (P := (zb (0 ≤ x2 ∧ x2 ≤ 1)) = 0) (a := 33) (b := 24) (ls' := [.ref 33, .int x1, .int x2]) (st' := []) (mem' := mem) hS hC rfl (fun h => ?_) (fun h => ?_)
    · replace k := k.2 (zb0 h)
      refine ex_many (pc' := 35) (ls' := [.ref 33, .int x1, .int x2]) (st' := [.int (-100002)]) (mem' := mem) hS hC 1 rfl ?_
      exact ex_ret (v := (some (.int (-100002)))) hS hC rfl rfl rfl k
    · replace k := k.1 (zb1 h)
      refine ex_many (pc' := 27) (ls' := [.ref 33, .int x1, .int x2]) (st' := [.int x2, .int x1, .ref 33]) (mem' := mem) hS hC 3 rfl ?_
      refine ex_call (y' := m_X10_proofOf) (rest := []) (ent := [.ref 33, .int x1, .int x2, .null, .null]) hS hC rfl rfl rfl rfl rfl rfl ?_
      exact k

set_option maxRecDepth 20000 in
theorem bk_X10_proof_30 {ro : pm_RO} {Q : Option Value → pm_M → Prop} {mem : pm_M} {x1 x2 s0 : Int32} (k : Q (some (.int s0)) mem) : pm_Ex ro m_X10_proof 30 [.ref 33, .int x1, .int x2] [.int s0] mem Q := by
  have hS : pm_sig[m_X10_proof]? = some _ := rfl
  have hC : pm_cod[m_X10_proof]? = some _ := rfl
  refine ex_many (pc' := 35) (ls' := [.ref 33, .int x1, .int x2]) (st' := [.int s0]) (mem' := mem) hS hC 1 rfl ?_
  exact ex_ret (v := (some (.int s0))) hS hC rfl rfl rfl k

set_option maxRecDepth 20000 in
theorem bk_X10_isProof_0 {ro : pm_RO} {Q : Option Value → pm_M → Prop} {mem : pm_M} {a1 : Int32} (k : pm_Ex ro m_X10_isProof 4 [.ref 33, .int a1, .int 1, .int 1] [] mem Q) : pm_Ex ro m_X10_isProof 0 [.ref 33, .int a1, .null, .null] [] mem Q := by
  have hS : pm_sig[m_X10_isProof]? = some _ := rfl
  have hC : pm_cod[m_X10_isProof]? = some _ := rfl
  refine ex_many (pc' := 4) (ls' := [.ref 33, .int a1, .int 1, .int 1]) (st' := []) (mem' := mem) hS hC 4 rfl ?_
  exact k

set_option maxRecDepth 20000 in
theorem bk_X10_isProof_4 {ro : pm_RO} {Q : Option Value → pm_M → Prop} {mem : pm_M} {x1 x2 x3 : Int32} (k : ((((1 : Int32) <<< ((mem 33 8) &&& 31)) - 1) < x3 → (x2 = 0 ∨ x2 = 1) ∧ Q (some (.int x2)) mem) ∧ (¬ ((((1 : Int32) <<< ((mem 33 8) &&& 31)) - 1) < x3) → (x2 = 0 → pm_Ex ro m_X10_isProof 4 [.ref 33, .int x1, .int 0, .int (x3 + 1)] [] mem Q) ∧ (¬ (x2 = 0) → pm_Ex ro m_X10_gainBy 0 [.ref 33, .int x3] [] mem (fun v m => pm_Ex ro m_X10_isProof 21 [.ref 33, .int x1, .int x2, .int x3] (v.toList ++ []) m Q)))) : pm_Ex ro m_X10_isProof 4 [.ref 33, .int x1, .int x2, .int x3] [] mem Q := by
  have hS : pm_sig[m_X10_isProof]? = some _ := rfl
  have hC : pm_cod[m_X10_isProof]? = some _ := rfl
  refine ex_many (pc' := 6) (ls' := [.ref 33, .int x1, .int x2, .int x3]) (st' := [.ref 33, .int x3]) (mem' := mem) hS hC 2 rfl ?_
  refine ex_call (y' := m_X10_whole) (rest := [.int x3]) (ent := [.ref 33]) hS hC rfl rfl rfl rfl rfl rfl ?_
  refine bk_X10_whole_0 ?_
  show pm_Ex ro m_X10_isProof 9 [.ref 33, .int x1, .int x2, .int x3] [.int (((1 : Int32) <<< ((mem 33 8) &&& 31)) - 1), .int x3] mem Q
  refine ex_br (P := (((1 : Int32) <<< ((mem 33 8) &&& 31)) - 1) < x3) (a := 37) (b := 12) (ls' := [.ref 33, .int x1, .int x2, .int x3]) (st' := []) (mem' := mem) hS hC rfl (fun h => ?_) (fun h => ?_)
  · replace k := k.1 (h)
    refine ex_many (pc' := 38) (ls' := [.ref 33, .int x1, .int x2, .int x3]) (st' := [.int x2]) (mem' := mem) hS hC 1 rfl ?_
    exact ex_retz hS hC rfl rfl rfl k.1 k.2
  · replace k := k.2 (h)
    refine ex_many (pc' := 13) (ls' := [.ref 33, .int x1, .int x2, .int x3]) (st' := [.int x2]) (mem' := mem) hS hC 1 rfl ?_
    refine ex_br (P := x2 = 0) (a := 29) (b := 16) (ls' := [.ref 33, .int x1, .int x2, .int x3]) (st' := []) (mem' := mem) hS hC rfl (fun h => ?_) (fun h => ?_)
    · replace k := k.1 (h)
      refine ex_many (pc' := 4) (ls' := [.ref 33, .int x1, .int 0, .int (x3 + 1)]) (st' := []) (mem' := mem) hS hC 4 rfl ?_
      exact k
    · replace k := k.2 (h)
      refine ex_many (pc' := 18) (ls' := [.ref 33, .int x1, .int x2, .int x3]) (st' := [.int x3, .ref 33]) (mem' := mem) hS hC 2 rfl ?_
      refine ex_call (y' := m_X10_gainBy) (rest := []) (ent := [.ref 33, .int x3]) hS hC rfl rfl rfl rfl rfl rfl ?_
      exact k

set_option maxRecDepth 20000 in
theorem bk_X10_isProof_21 {ro : pm_RO} {Q : Option Value → pm_M → Prop} {mem : pm_M} {x1 x2 x3 s0 : Int32} (k : pm_Ex ro m_X10_isProof 4 [.ref 33, .int x1, .int (zb (¬ (x1 < s0))), .int (x3 + 1)] [] mem Q) : pm_Ex ro m_X10_isProof 21 [.ref 33, .int x1, .int x2, .int x3] [.int s0] mem Q := by
  have hS : pm_sig[m_X10_isProof]? = some _ := rfl
  have hC : pm_cod[m_X10_isProof]? = some _ := rfl
  refine ex_many (pc' := 22) (ls' := [.ref 33, .int x1, .int x2, .int x3]) (st' := [.int x1, .int s0]) (mem' := mem) hS hC 1 rfl ?_
  have kp32 : pm_Ex ro m_X10_isProof 30 [.ref 33, .int x1, .int x2, .int x3] [.int (zb (¬ (x1 < s0)))] mem Q := by
    refine ex_many (pc' := 4) (ls' := [.ref 33, .int x1, .int (zb (¬ (x1 < s0))), .int (x3 + 1)]) (st' := []) (mem' := mem) hS hC 3 rfl ?_
    exact k
  refine ex_br (P := x1 < s0) (a := 29) (b := 25) (ls' := [.ref 33, .int x1, .int x2, .int x3]) (st' := []) (mem' := mem) hS hC rfl (fun h => ?_) (fun h => ?_)
  · have kp32a : pm_Ex ro m_X10_isProof 30 [.ref 33, .int x1, .int x2, .int x3] [.int 0] mem Q := pm_phi1 (f := fun z0 => pm_Ex ro m_X10_isProof 30 [.ref 33, .int x1, .int x2, .int x3] [.int z0] mem Q) (zb_npos (h)) kp32
    refine ex_many (pc' := 30) (ls' := [.ref 33, .int x1, .int x2, .int x3]) (st' := [.int 0]) (mem' := mem) hS hC 1 rfl ?_
    exact kp32a
  · have kp32b : pm_Ex ro m_X10_isProof 30 [.ref 33, .int x1, .int x2, .int x3] [.int 1] mem Q := pm_phi1 (f := fun z0 => pm_Ex ro m_X10_isProof 30 [.ref 33, .int x1, .int x2, .int x3] [.int z0] mem Q) (zb_nneg (h)) kp32
    refine ex_many (pc' := 30) (ls' := [.ref 33, .int x1, .int x2, .int x3]) (st' := [.int 1]) (mem' := mem) hS hC 2 rfl ?_
    exact kp32b

set_option maxRecDepth 20000 in
theorem bk_X10_raisedOf_0 {ro : pm_RO} {Q : Option Value → pm_M → Prop} {mem : pm_M} {a1 a2 : Int32} (k : (pm_inb a1 8 = true) ∧ (pm_Ex ro m_X10_raisedOf 13 [.ref 33, .int a1, .int a2, .int (mem 39 a1.toNatClampNeg), .int (-1), .int 0] [] mem Q)) : pm_Ex ro m_X10_raisedOf 0 [.ref 33, .int a1, .int a2, .null, .null, .null] [] mem Q := by
  have hS : pm_sig[m_X10_raisedOf]? = some _ := rfl
  have hC : pm_cod[m_X10_raisedOf]? = some _ := rfl
  refine ex_many (pc' := 5) (ls' := [.ref 33, .int a1, .int a2, .null, .null, .null]) (st' := [.int a1, .ref 39]) (mem' := mem) hS hC 3 rfl ?_
  refine ex_grd (b := pm_inb a1 8) (pc' := 6) (ls' := [.ref 33, .int a1, .int a2, .null, .null, .null]) (st' := [.int (mem 39 a1.toNatClampNeg)]) (mem' := mem) hS hC rfl k.1 ?_
  replace k := k.2
  refine ex_many (pc' := 13) (ls' := [.ref 33, .int a1, .int a2, .int (mem 39 a1.toNatClampNeg), .int (-1), .int 0]) (st' := []) (mem' := mem) hS hC 5 rfl ?_
  exact k

set_option maxRecDepth 20000 in
theorem bk_X10_raisedOf_13 {ro : pm_RO} {Q : Option Value → pm_M → Prop} {mem : pm_M} {x1 x2 x3 x4 x5 : Int32} (k : (100 ≤ x5 → (pm_inb x1 8 = true) ∧ (Q (some (.int x4)) (pm_up mem 39 x1.toNatClampNeg x3))) ∧ (¬ (100 ≤ x5) → (¬ x4 = (-1) → (pm_inb x1 8 = true) ∧ (Q (some (.int x4)) (pm_up mem 39 x1.toNatClampNeg x3))) ∧ (¬ (¬ x4 = (-1)) → (pm_inb x1 8 = true) ∧ (pm_Ex ro m_X10_isProof 0 [.ref 33, .int x2, .null, .null] [] (pm_up mem 39 x1.toNatClampNeg (x3 + x5)) (fun v m => pm_Ex ro m_X10_raisedOf 41 [.ref 33, .int x1, .int x2, .int x3, .int x4, .int x5] (v.toList ++ []) m Q))))) : pm_Ex ro m_X10_raisedOf 13 [.ref 33, .int x1, .int x2, .int x3, .int x4, .int x5] [] mem Q := by
  have hS : pm_sig[m_X10_raisedOf]? = some _ := rfl
  have hC : pm_cod[m_X10_raisedOf]? = some _ := rfl
  refine ex_many (pc' := 17) (ls' := [.ref 33, .int x1, .int x2, .int x3, .int x4, .int x5]) (st' := [.int 100, .int x5]) (mem' := mem) hS hC 2 rfl ?_
  refine ex_br (P := 100 ≤ x5) (a := 58) (b := 20) (ls' := [.ref 33, .int x1, .int x2, .int x3, .int x4, .int x5]) (st' := []) (mem' := mem) hS hC rfl (fun h => ?_) (fun h => ?_)
  · replace k := k.1 (h)
    refine ex_many (pc' := 64) (ls' := [.ref 33, .int x1, .int x2, .int x3, .int x4, .int x5]) (st' := [.int x3, .int x1, .ref 39]) (mem' := mem) hS hC 4 rfl ?_
    refine ex_grd (b := pm_inb x1 8) (pc' := 65) (ls' := [.ref 33, .int x1, .int x2, .int x3, .int x4, .int x5]) (st' := []) (mem' := pm_up mem 39 x1.toNatClampNeg x3) hS hC rfl k.1 ?_
    replace k := k.2
    refine ex_many (pc' := 67) (ls' := [.ref 33, .int x1, .int x2, .int x3, .int x4, .int x5]) (st' := [.int x4]) (mem' := pm_up mem 39 x1.toNatClampNeg x3) hS hC 1 rfl ?_
    exact ex_ret (v := (some (.int x4))) hS hC rfl rfl rfl k
  · replace k := k.2 (h)
    refine ex_many (pc' := 23) (ls' := [.ref 33, .int x1, .int x2, .int x3, .int x4, .int x5]) (st' := [.int (-1), .int x4]) (mem' := mem) hS hC 2 rfl ?_
    refine ex_br (P := ¬ x4 = (-1)) (a := 58) (b := 26) (ls' := [.ref 33, .int x1, .int x2, .int x3, .int x4, .int x5]) (st' := []) (mem' := mem) hS hC rfl (fun h => ?_) (fun h => ?_)
    · replace k := k.1 (h)
      refine ex_many (pc' := 64) (ls' := [.ref 33, .int x1, .int x2, .int x3, .int x4, .int x5]) (st' := [.int x3, .int x1, .ref 39]) (mem' := mem) hS hC 4 rfl ?_
      refine ex_grd (b := pm_inb x1 8) (pc' := 65) (ls' := [.ref 33, .int x1, .int x2, .int x3, .int x4, .int x5]) (st' := []) (mem' := pm_up mem 39 x1.toNatClampNeg x3) hS hC rfl k.1 ?_
      replace k := k.2
      refine ex_many (pc' := 67) (ls' := [.ref 33, .int x1, .int x2, .int x3, .int x4, .int x5]) (st' := [.int x4]) (mem' := pm_up mem 39 x1.toNatClampNeg x3) hS hC 1 rfl ?_
      exact ex_ret (v := (some (.int x4))) hS hC rfl rfl rfl k
    · replace k := k.2 (h)
      refine ex_many (pc' := 35) (ls' := [.ref 33, .int x1, .int x2, .int x3, .int x4, .int x5]) (st' := [.int (x3 + x5), .int x1, .ref 39]) (mem' := mem) hS hC 6 rfl ?_
      refine ex_grd (b := pm_inb x1 8) (pc' := 36) (ls' := [.ref 33, .int x1, .int x2, .int x3, .int x4, .int x5]) (st' := []) (mem' := pm_up mem 39 x1.toNatClampNeg (x3 + x5)) hS hC rfl k.1 ?_
      replace k := k.2
      refine ex_many (pc' := 38) (ls' := [.ref 33, .int x1, .int x2, .int x3, .int x4, .int x5]) (st' := [.int x2, .ref 33]) (mem' := pm_up mem 39 x1.toNatClampNeg (x3 + x5)) hS hC 2 rfl ?_
      refine ex_call (y' := m_X10_isProof) (rest := []) (ent := [.ref 33, .int x2, .null, .null]) hS hC rfl rfl rfl rfl rfl rfl ?_
      exact k

set_option maxRecDepth 20000 in
theorem bk_X10_raisedOf_41 {ro : pm_RO} {Q : Option Value → pm_M → Prop} {mem : pm_M} {x1 x2 x3 x4 x5 s0 : Int32} (k : pm_Ex ro m_X10_raisedOf 13 [.ref 33, .int x1, .int x2, .int x3, .int (if s0 = 0 then -1 else x5 : Int32), .int (x5 + 1)] [] mem Q) : pm_Ex ro m_X10_raisedOf 41 [.ref 33, .int x1, .int x2, .int x3, .int x4, .int x5] [.int s0] mem Q := by
  have hS : pm_sig[m_X10_raisedOf]? = some _ := rfl
  have hC : pm_cod[m_X10_raisedOf]? = some _ := rfl
  have kp33 : pm_Ex ro m_X10_raisedOf 50 [.ref 33, .int x1, .int x2, .int x3, .int x4, .int x5] [.int (if s0 = 0 then -1 else x5 : Int32)] mem Q := by
    refine ex_many (pc' := 13) (ls' := [.ref 33, .int x1, .int x2, .int x3, .int (if s0 = 0 then -1 else x5 : Int32), .int (x5 + 1)]) (st' := []) (mem' := mem) hS hC 3 rfl ?_
    exact k
  refine ex_br (P := s0 = 0) (a := 49) (b := 44) (ls' := [.ref 33, .int x1, .int x2, .int x3, .int x4, .int x5]) (st' := []) (mem' := mem) hS hC rfl (fun h => ?_) (fun h => ?_)
  · have kp33a : pm_Ex ro m_X10_raisedOf 50 [.ref 33, .int x1, .int x2, .int x3, .int x4, .int x5] [.int (-1)] mem Q := pm_phi1 (f := fun z0 => pm_Ex ro m_X10_raisedOf 50 [.ref 33, .int x1, .int x2, .int x3, .int x4, .int x5] [.int z0] mem Q) (if_pos (h)) kp33
    refine ex_many (pc' := 50) (ls' := [.ref 33, .int x1, .int x2, .int x3, .int x4, .int x5]) (st' := [.int (-1)]) (mem' := mem) hS hC 1 rfl ?_
    exact kp33a
  · have kp33b : pm_Ex ro m_X10_raisedOf 50 [.ref 33, .int x1, .int x2, .int x3, .int x4, .int x5] [.int x5] mem Q := pm_phi1 (f := fun z0 => pm_Ex ro m_X10_raisedOf 50 [.ref 33, .int x1, .int x2, .int x3, .int x4, .int x5] [.int z0] mem Q) (if_neg (h)) kp33
    refine ex_many (pc' := 50) (ls' := [.ref 33, .int x1, .int x2, .int x3, .int x4, .int x5]) (st' := [.int x5]) (mem' := mem) hS hC 2 rfl ?_
    exact kp33b

set_option maxRecDepth 20000 in
theorem bk_X10_raised_0 {ro : pm_RO} {Q : Option Value → pm_M → Prop} {mem : pm_M} {a1 a2 : Int32} (k : pm_Ex ro m_X10_isGood 0 [.ref 33, .int a1] [] mem (fun v m => pm_Ex ro m_X10_raised 5 [.ref 33, .int a1, .int a2] (v.toList ++ []) m Q)) : pm_Ex ro m_X10_raised 0 [.ref 33, .int a1, .int a2] [] mem Q := by
  have hS : pm_sig[m_X10_raised]? = some _ := rfl
  have hC : pm_cod[m_X10_raised]? = some _ := rfl
  refine ex_many (pc' := 2) (ls' := [.ref 33, .int a1, .int a2]) (st' := [.int a1, .ref 33]) (mem' := mem) hS hC 2 rfl ?_
  refine ex_call (y' := m_X10_isGood) (rest := []) (ent := [.ref 33, .int a1]) hS hC rfl rfl rfl rfl rfl rfl ?_
  exact k

set_option maxRecDepth 20000 in
theorem bk_X10_raised_5 {ro : pm_RO} {Q : Option Value → pm_M → Prop} {mem : pm_M} {x1 x2 s0 : Int32} (k : (s0 = 0 → Q (some (.int (-2))) mem) ∧ (¬ (s0 = 0) → (0 ≤ x2 ∧ x2 ≤ 999 → pm_Ex ro m_X10_raisedOf 0 [.ref 33, .int x1, .int x2, .null, .null, .null] [] mem (fun v m => pm_Ex ro m_X10_raised 26 [.ref 33, .int x1, .int x2] (v.toList ++ []) m Q)) ∧ (¬ (0 ≤ x2 ∧ x2 ≤ 999) → Q (some (.int (-2))) mem))) : pm_Ex ro m_X10_raised 5 [.ref 33, .int x1, .int x2] [.int s0] mem Q := by
  have hS : pm_sig[m_X10_raised]? = some _ := rfl
  have hC : pm_cod[m_X10_raised]? = some _ := rfl
  refine ex_br (P := s0 = 0) (a := 29) (b := 8) (ls' := [.ref 33, .int x1, .int x2]) (st' := []) (mem' := mem) hS hC rfl (fun h => ?_) (fun h => ?_)
  · replace k := k.1 (h)
    refine ex_many (pc' := 31) (ls' := [.ref 33, .int x1, .int x2]) (st' := [.int (-2)]) (mem' := mem) hS hC 1 rfl ?_
    exact ex_ret (v := (some (.int (-2)))) hS hC rfl rfl rfl k
  · replace k := k.2 (h)
    refine ex_many (pc' := 14) (ls' := [.ref 33, .int x1, .int x2]) (st' := [.long 999, .long 0, .long x2.toInt64]) (mem' := mem) hS hC 4 rfl ?_
    refine ex_call (y' := m_X10_in) (rest := []) (ent := [.long x2.toInt64, .null, .long 0, .null, .long 999, .null]) hS hC rfl rfl rfl rfl rfl rfl ?_
    refine sp_in32 (v := x2) (lo := 0) (hi := 999) (by decide) (by decide) ?_
    show pm_Ex ro m_X10_raised 17 [.ref 33, .int x1, .int x2] [.int (zb (0 ≤ x2 ∧ x2 ≤ 999))] mem Q
    refine ex_br (P := (zb (0 ≤ x2 ∧ x2 ≤ 999)) = 0) (a := 29) (b := 20) (ls' := [.ref 33, .int x1, .int x2]) (st' := []) (mem' := mem) hS hC rfl (fun h => ?_) (fun h => ?_)
    · replace k := k.2 (zb0 h)
      refine ex_many (pc' := 31) (ls' := [.ref 33, .int x1, .int x2]) (st' := [.int (-2)]) (mem' := mem) hS hC 1 rfl ?_
      exact ex_ret (v := (some (.int (-2)))) hS hC rfl rfl rfl k
    · replace k := k.1 (zb1 h)
      refine ex_many (pc' := 23) (ls' := [.ref 33, .int x1, .int x2]) (st' := [.int x2, .int x1, .ref 33]) (mem' := mem) hS hC 3 rfl ?_
      refine ex_call (y' := m_X10_raisedOf) (rest := []) (ent := [.ref 33, .int x1, .int x2, .null, .null, .null]) hS hC rfl rfl rfl rfl rfl rfl ?_
      exact k

set_option maxRecDepth 20000 in
theorem bk_X10_raised_26 {ro : pm_RO} {Q : Option Value → pm_M → Prop} {mem : pm_M} {x1 x2 s0 : Int32} (k : Q (some (.int s0)) mem) : pm_Ex ro m_X10_raised 26 [.ref 33, .int x1, .int x2] [.int s0] mem Q := by
  have hS : pm_sig[m_X10_raised]? = some _ := rfl
  have hC : pm_cod[m_X10_raised]? = some _ := rfl
  refine ex_many (pc' := 31) (ls' := [.ref 33, .int x1, .int x2]) (st' := [.int s0]) (mem' := mem) hS hC 1 rfl ?_
  exact ex_ret (v := (some (.int s0))) hS hC rfl rfl rfl k

set_option maxRecDepth 20000 in
theorem bk_X10_roundsOf_0 {ro : pm_RO} {Q : Option Value → pm_M → Prop} {mem : pm_M} {a1 a2 a3 : Int32} (k : pm_Ex ro m_X10_paidFor 0 [.ref 33, .int a2, .null, .null, .null, .null] [] mem (fun v m => pm_Ex ro m_X10_roundsOf 5 [.ref 33, .int a1, .int a2, .int a3, .null, .null, .null, .null, .null] (v.toList ++ []) m Q)) : pm_Ex ro m_X10_roundsOf 0 [.ref 33, .int a1, .int a2, .int a3, .null, .null, .null, .null, .null] [] mem Q := by
  have hS : pm_sig[m_X10_roundsOf]? = some _ := rfl
  have hC : pm_cod[m_X10_roundsOf]? = some _ := rfl
  refine ex_many (pc' := 2) (ls' := [.ref 33, .int a1, .int a2, .int a3, .null, .null, .null, .null, .null]) (st' := [.int a2, .ref 33]) (mem' := mem) hS hC 2 rfl ?_
  refine ex_call (y' := m_X10_paidFor) (rest := []) (ent := [.ref 33, .int a2, .null, .null, .null, .null]) hS hC rfl rfl rfl rfl rfl rfl ?_
  exact k

set_option maxRecDepth 20000 in
theorem bk_X10_roundsOf_20 {ro : pm_RO} {Q : Option Value → pm_M → Prop} {mem : pm_M} {x1 x2 x3 x4 x5 x6 : Int32} {d7 d8 : Value} (k : (200 ≤ x5 → (¬ x3 = 0 → (¬ x3 = 1 → Q (some (.int x6)) mem) ∧ (¬ (¬ x3 = 1) → (pm_inb x5 201 = true) ∧ (Q (some (.int (mem 45 x5.toNatClampNeg))) mem))) ∧ (¬ (¬ x3 = 0) → Q (some (.int x5)) mem)) ∧ (¬ (200 ≤ x5) → (pm_inb x5 201 = true) ∧ (((mem 45 x5.toNatClampNeg) < x4 → (¬ x3 = 0 → (¬ x3 = 1 → Q (some (.int x6)) mem) ∧ (¬ (¬ x3 = 1) → (pm_inb x5 201 = true) ∧ (Q (some (.int (mem 45 x5.toNatClampNeg))) mem))) ∧ (¬ (¬ x3 = 0) → Q (some (.int x5)) mem)) ∧ (¬ ((mem 45 x5.toNatClampNeg) < x4) → (pm_inb x5 201 = true) ∧ (pm_Ex ro m_X10_paidFor 0 [.ref 33, .int ((mem 45 x5.toNatClampNeg) - x4), .null, .null, .null, .null] [] mem (fun v m => pm_Ex ro m_X10_roundsOf 54 [.ref 33, .int x1, .int x2, .int x3, .int x4, .int x5, .int x6, d7, d8] (v.toList ++ []) m Q)))))) : pm_Ex ro m_X10_roundsOf 20 [.ref 33, .int x1, .int x2, .int x3, .int x4, .int x5, .int x6, d7, d8] [] mem Q := by
  have hS : pm_sig[m_X10_roundsOf]? = some _ := rfl
  have hC : pm_cod[m_X10_roundsOf]? = some _ := rfl
  refine ex_many (pc' := 25) (ls' := [.ref 33, .int x1, .int x2, .int x3, .int x4, .int x5, .int x6, d7, d8]) (st' := [.int 200, .int x5]) (mem' := mem) hS hC 2 rfl ?_
  refine ex_br (P := 200 ≤ x5) (a := 115) (b := 28) (ls' := [.ref 33, .int x1, .int x2, .int x3, .int x4, .int x5, .int x6, d7, d8]) (st' := []) (mem' := mem) hS hC rfl (fun h => ?_) (fun h => ?_)
  · replace k := k.1 (h)
    refine ex_many (pc' := 116) (ls' := [.ref 33, .int x1, .int x2, .int x3, .int x4, .int x5, .int x6, d7, d8]) (st' := [.int x3]) (mem' := mem) hS hC 1 rfl ?_
    refine ex_br (P := ¬ x3 = 0) (a := 124) (b := 119) (ls' := [.ref 33, .int x1, .int x2, .int x3, .int x4, .int x5, .int x6, d7, d8]) (st' := []) (mem' := mem) hS hC rfl (fun h => ?_) (fun h => ?_)
    · replace k := k.1 (h)
      refine ex_many (pc' := 126) (ls' := [.ref 33, .int x1, .int x2, .int x3, .int x4, .int x5, .int x6, d7, d8]) (st' := [.int 1, .int x3]) (mem' := mem) hS hC 2 rfl ?_
      refine ex_br (P := ¬ x3 = 1) (a := 139) (b := 129) (ls' := [.ref 33, .int x1, .int x2, .int x3, .int x4, .int x5, .int x6, d7, d8]) (st' := []) (mem' := mem) hS hC rfl (fun h => ?_) (fun h => ?_)
      · replace k := k.1 (h)
        refine ex_many (pc' := 141) (ls' := [.ref 33, .int x1, .int x2, .int x3, .int x4, .int x5, .int x6, d7, d8]) (st' := [.int x6]) (mem' := mem) hS hC 1 rfl ?_
        exact ex_ret (v := (some (.int x6))) hS hC rfl rfl rfl k
      · replace k := k.2 (h)
        refine ex_many (pc' := 135) (ls' := [.ref 33, .int x1, .int x2, .int x3, .int x4, .int x5, .int x6, d7, d8]) (st' := [.int x5, .ref 45]) (mem' := mem) hS hC 3 rfl ?_
        refine ex_grd (b := pm_inb x5 201) (pc' := 136) (ls' := [.ref 33, .int x1, .int x2, .int x3, .int x4, .int x5, .int x6, d7, d8]) (st' := [.int (mem 45 x5.toNatClampNeg)]) (mem' := mem) hS hC rfl k.1 ?_
        replace k := k.2
        refine ex_many (pc' := 141) (ls' := [.ref 33, .int x1, .int x2, .int x3, .int x4, .int x5, .int x6, d7, d8]) (st' := [.int (mem 45 x5.toNatClampNeg)]) (mem' := mem) hS hC 1 rfl ?_
        exact ex_ret (v := (some (.int (mem 45 x5.toNatClampNeg)))) hS hC rfl rfl rfl k
    · replace k := k.2 (h)
      refine ex_many (pc' := 141) (ls' := [.ref 33, .int x1, .int x2, .int x3, .int x4, .int x5, .int x6, d7, d8]) (st' := [.int x5]) (mem' := mem) hS hC 2 rfl ?_
      exact ex_ret (v := (some (.int x5))) hS hC rfl rfl rfl k
  · replace k := k.2 (h)
    refine ex_many (pc' := 36) (ls' := [.ref 33, .int x1, .int x2, .int x3, .int x4, .int x5, .int x6, d7, d8]) (st' := [.int x5, .ref 45, .int x4]) (mem' := mem) hS hC 4 rfl ?_
    refine ex_grd (b := pm_inb x5 201) (pc' := 37) (ls' := [.ref 33, .int x1, .int x2, .int x3, .int x4, .int x5, .int x6, d7, d8]) (st' := [.int (mem 45 x5.toNatClampNeg), .int x4]) (mem' := mem) hS hC rfl k.1 ?_
    replace k := k.2
    refine ex_br (P := (mem 45 x5.toNatClampNeg) < x4) (a := 115) (b := 40) (ls' := [.ref 33, .int x1, .int x2, .int x3, .int x4, .int x5, .int x6, d7, d8]) (st' := []) (mem' := mem) hS hC rfl (fun h => ?_) (fun h => ?_)
    · replace k := k.1 (h)
      refine ex_many (pc' := 116) (ls' := [.ref 33, .int x1, .int x2, .int x3, .int x4, .int x5, .int x6, d7, d8]) (st' := [.int x3]) (mem' := mem) hS hC 1 rfl ?_
      refine ex_br (P := ¬ x3 = 0) (a := 124) (b := 119) (ls' := [.ref 33, .int x1, .int x2, .int x3, .int x4, .int x5, .int x6, d7, d8]) (st' := []) (mem' := mem) hS hC rfl (fun h => ?_) (fun h => ?_)
      · replace k := k.1 (h)
        refine ex_many (pc' := 126) (ls' := [.ref 33, .int x1, .int x2, .int x3, .int x4, .int x5, .int x6, d7, d8]) (st' := [.int 1, .int x3]) (mem' := mem) hS hC 2 rfl ?_
        refine ex_br (P := ¬ x3 = 1) (a := 139) (b := 129) (ls' := [.ref 33, .int x1, .int x2, .int x3, .int x4, .int x5, .int x6, d7, d8]) (st' := []) (mem' := mem) hS hC rfl (fun h => ?_) (fun h => ?_)
        · replace k := k.1 (h)
          refine ex_many (pc' := 141) (ls' := [.ref 33, .int x1, .int x2, .int x3, .int x4, .int x5, .int x6, d7, d8]) (st' := [.int x6]) (mem' := mem) hS hC 1 rfl ?_
          exact ex_ret (v := (some (.int x6))) hS hC rfl rfl rfl k
        · replace k := k.2 (h)
          refine ex_many (pc' := 135) (ls' := [.ref 33, .int x1, .int x2, .int x3, .int x4, .int x5, .int x6, d7, d8]) (st' := [.int x5, .ref 45]) (mem' := mem) hS hC 3 rfl ?_
          refine ex_grd (b := pm_inb x5 201) (pc' := 136) (ls' := [.ref 33, .int x1, .int x2, .int x3, .int x4, .int x5, .int x6, d7, d8]) (st' := [.int (mem 45 x5.toNatClampNeg)]) (mem' := mem) hS hC rfl k.1 ?_
          replace k := k.2
          refine ex_many (pc' := 141) (ls' := [.ref 33, .int x1, .int x2, .int x3, .int x4, .int x5, .int x6, d7, d8]) (st' := [.int (mem 45 x5.toNatClampNeg)]) (mem' := mem) hS hC 1 rfl ?_
          exact ex_ret (v := (some (.int (mem 45 x5.toNatClampNeg)))) hS hC rfl rfl rfl k
      · replace k := k.2 (h)
        refine ex_many (pc' := 141) (ls' := [.ref 33, .int x1, .int x2, .int x3, .int x4, .int x5, .int x6, d7, d8]) (st' := [.int x5]) (mem' := mem) hS hC 2 rfl ?_
        exact ex_ret (v := (some (.int x5))) hS hC rfl rfl rfl k
    · replace k := k.2 (h)
      refine ex_many (pc' := 47) (ls' := [.ref 33, .int x1, .int x2, .int x3, .int x4, .int x5, .int x6, d7, d8]) (st' := [.int x5, .ref 45, .ref 33]) (mem' := mem) hS hC 4 rfl ?_
      refine ex_grd (b := pm_inb x5 201) (pc' := 48) (ls' := [.ref 33, .int x1, .int x2, .int x3, .int x4, .int x5, .int x6, d7, d8]) (st' := [.int (mem 45 x5.toNatClampNeg), .ref 33]) (mem' := mem) hS hC rfl k.1 ?_
      replace k := k.2
      refine ex_many (pc' := 51) (ls' := [.ref 33, .int x1, .int x2, .int x3, .int x4, .int x5, .int x6, d7, d8]) (st' := [.int ((mem 45 x5.toNatClampNeg) - x4), .ref 33]) (mem' := mem) hS hC 2 rfl ?_
      refine ex_call (y' := m_X10_paidFor) (rest := []) (ent := [.ref 33, .int ((mem 45 x5.toNatClampNeg) - x4), .null, .null, .null, .null]) hS hC rfl rfl rfl rfl rfl rfl ?_
      exact k

set_option maxRecDepth 20000 in
theorem bk_X10_roundsOf_59 {ro : pm_RO} {Q : Option Value → pm_M → Prop} {mem : pm_M} {x1 x2 x3 x4 x5 x6 x7 x8 : Int32} (k : (x5 < x8 → (pm_inb (x5 + 1) 201 = true) ∧ (pm_Ex ro m_X10_roundsOf 20 [.ref 33, .int x1, .int x2, .int x3, .int x4, .int (x5 + 1), .int x6, .int x7, .int x8] [] (pm_up mem 45 ((x5 + 1).toNatClampNeg) x7) Q)) ∧ (¬ (x5 < x8) → (¬ x6 = (-1) → (pm_inb (x5 + 1) 201 = true) ∧ (pm_Ex ro m_X10_roundsOf 20 [.ref 33, .int x1, .int x2, .int x3, .int x4, .int (x5 + 1), .int x6, .int x7, .int x8] [] (pm_up mem 45 ((x5 + 1).toNatClampNeg) x7) Q)) ∧ (¬ (¬ x6 = (-1)) → (pm_inb x8 201 = true) ∧ (pm_Ex ro m_X10_roundsOf 59 [.ref 33, .int x1, .int x2, .int x3, .int x4, .int x5, .int (if ¬ (mem 45 x8.toNatClampNeg) = x7 then -1 else x5 + 1 : Int32), .int x7, .int (x8 + 1)] [] mem Q)))) : pm_Ex ro m_X10_roundsOf 59 [.ref 33, .int x1, .int x2, .int x3, .int x4, .int x5, .int x6, .int x7, .int x8] [] mem Q := by
  have hS : pm_sig[m_X10_roundsOf]? = some _ := rfl
  have hC : pm_cod[m_X10_roundsOf]? = some _ := rfl
  refine ex_many (pc' := 63) (ls' := [.ref 33, .int x1, .int x2, .int x3, .int x4, .int x5, .int x6, .int x7, .int x8]) (st' := [.int x5, .int x8]) (mem' := mem) hS hC 2 rfl ?_
  refine ex_br (P := x5 < x8) (a := 100) (b := 66) (ls' := [.ref 33, .int x1, .int x2, .int x3, .int x4, .int x5, .int x6, .int x7, .int x8]) (st' := []) (mem' := mem) hS hC rfl (fun h => ?_) (fun h => ?_)
  · replace k := k.1 (h)
    refine ex_many (pc' := 111) (ls' := [.ref 33, .int x1, .int x2, .int x3, .int x4, .int (x5 + 1), .int x6, .int x7, .int x8]) (st' := [.int x7, .int (x5 + 1), .ref 45]) (mem' := mem) hS hC 5 rfl ?_
    refine ex_grd (b := pm_inb (x5 + 1) 201) (pc' := 112) (ls' := [.ref 33, .int x1, .int x2, .int x3, .int x4, .int (x5 + 1), .int x6, .int x7, .int x8]) (st' := []) (mem' := pm_up mem 45 ((x5 + 1).toNatClampNeg) x7) hS hC rfl k.1 ?_
    replace k := k.2
    refine ex_many (pc' := 20) (ls' := [.ref 33, .int x1, .int x2, .int x3, .int x4, .int (x5 + 1), .int x6, .int x7, .int x8]) (st' := []) (mem' := pm_up mem 45 ((x5 + 1).toNatClampNeg) x7) hS hC 1 rfl ?_
    exact k
  · replace k := k.2 (h)
    refine ex_many (pc' := 69) (ls' := [.ref 33, .int x1, .int x2, .int x3, .int x4, .int x5, .int x6, .int x7, .int x8]) (st' := [.int (-1), .int x6]) (mem' := mem) hS hC 2 rfl ?_
    refine ex_br (P := ¬ x6 = (-1)) (a := 100) (b := 72) (ls' := [.ref 33, .int x1, .int x2, .int x3, .int x4, .int x5, .int x6, .int x7, .int x8]) (st' := []) (mem' := mem) hS hC rfl (fun h => ?_) (fun h => ?_)
    · replace k := k.1 (h)
      refine ex_many (pc' := 111) (ls' := [.ref 33, .int x1, .int x2, .int x3, .int x4, .int (x5 + 1), .int x6, .int x7, .int x8]) (st' := [.int x7, .int (x5 + 1), .ref 45]) (mem' := mem) hS hC 5 rfl ?_
      refine ex_grd (b := pm_inb (x5 + 1) 201) (pc' := 112) (ls' := [.ref 33, .int x1, .int x2, .int x3, .int x4, .int (x5 + 1), .int x6, .int x7, .int x8]) (st' := []) (mem' := pm_up mem 45 ((x5 + 1).toNatClampNeg) x7) hS hC rfl k.1 ?_
      replace k := k.2
      refine ex_many (pc' := 20) (ls' := [.ref 33, .int x1, .int x2, .int x3, .int x4, .int (x5 + 1), .int x6, .int x7, .int x8]) (st' := []) (mem' := pm_up mem 45 ((x5 + 1).toNatClampNeg) x7) hS hC 1 rfl ?_
      exact k
    · replace k := k.2 (h)
      refine ex_many (pc' := 78) (ls' := [.ref 33, .int x1, .int x2, .int x3, .int x4, .int x5, .int x6, .int x7, .int x8]) (st' := [.int x8, .ref 45]) (mem' := mem) hS hC 3 rfl ?_
      refine ex_grd (b := pm_inb x8 201) (pc' := 79) (ls' := [.ref 33, .int x1, .int x2, .int x3, .int x4, .int x5, .int x6, .int x7, .int x8]) (st' := [.int (mem 45 x8.toNatClampNeg)]) (mem' := mem) hS hC rfl k.1 ?_
      replace k := k.2
      refine ex_many (pc' := 81) (ls' := [.ref 33, .int x1, .int x2, .int x3, .int x4, .int x5, .int x6, .int x7, .int x8]) (st' := [.int x7, .int (mem 45 x8.toNatClampNeg)]) (mem' := mem) hS hC 1 rfl ?_
      have kp34 : pm_Ex ro m_X10_roundsOf 92 [.ref 33, .int x1, .int x2, .int x3, .int x4, .int x5, .int x6, .int x7, .int x8] [.int (if ¬ (mem 45 x8.toNatClampNeg) = x7 then -1 else x5 + 1 : Int32)] mem Q := by
        refine ex_many (pc' := 59) (ls' := [.ref 33, .int x1, .int x2, .int x3, .int x4, .int x5, .int (if ¬ (mem 45 x8.toNatClampNeg) = x7 then -1 else x5 + 1 : Int32), .int x7, .int (x8 + 1)]) (st' := []) (mem' := mem) hS hC 3 rfl ?_
        exact k
      refine ex_br (P := ¬ (mem 45 x8.toNatClampNeg) = x7) (a := 91) (b := 84) (ls' := [.ref 33, .int x1, .int x2, .int x3, .int x4, .int x5, .int x6, .int x7, .int x8]) (st' := []) (mem' := mem) hS hC rfl (fun h => ?_) (fun h => ?_)
      · have kp34a : pm_Ex ro m_X10_roundsOf 92 [.ref 33, .int x1, .int x2, .int x3, .int x4, .int x5, .int x6, .int x7, .int x8] [.int (-1)] mem Q := pm_phi1 (f := fun z0 => pm_Ex ro m_X10_roundsOf 92 [.ref 33, .int x1, .int x2, .int x3, .int x4, .int x5, .int x6, .int x7, .int x8] [.int z0] mem Q) (if_pos (h)) kp34
        refine ex_many (pc' := 92) (ls' := [.ref 33, .int x1, .int x2, .int x3, .int x4, .int x5, .int x6, .int x7, .int x8]) (st' := [.int (-1)]) (mem' := mem) hS hC 1 rfl ?_
        exact kp34a
      · have kp34b : pm_Ex ro m_X10_roundsOf 92 [.ref 33, .int x1, .int x2, .int x3, .int x4, .int x5, .int x6, .int x7, .int x8] [.int (x5 + 1)] mem Q := pm_phi1 (f := fun z0 => pm_Ex ro m_X10_roundsOf 92 [.ref 33, .int x1, .int x2, .int x3, .int x4, .int x5, .int x6, .int x7, .int x8] [.int z0] mem Q) (if_neg (h)) kp34
        refine ex_many (pc' := 92) (ls' := [.ref 33, .int x1, .int x2, .int x3, .int x4, .int x5, .int x6, .int x7, .int x8]) (st' := [.int (x5 + 1)]) (mem' := mem) hS hC 4 rfl ?_
        exact kp34b

set_option maxRecDepth 20000 in
theorem bk_X10_roundsOf_5 {ro : pm_RO} {Q : Option Value → pm_M → Prop} {mem : pm_M} {x1 x2 x3 s0 : Int32} (k : pm_Ex ro m_X10_roundsOf 20 [.ref 33, .int x1, .int x2, .int x3, .int s0, .int 0, .int (-1), .null, .null] [] (pm_up mem 45 0 x1) Q) : pm_Ex ro m_X10_roundsOf 5 [.ref 33, .int x1, .int x2, .int x3, .null, .null, .null, .null, .null] [.int s0] mem Q := by
  have hS : pm_sig[m_X10_roundsOf]? = some _ := rfl
  have hC : pm_cod[m_X10_roundsOf]? = some _ := rfl
  refine ex_many (pc' := 20) (ls' := [.ref 33, .int x1, .int x2, .int x3, .int s0, .int 0, .int (-1), .null, .null]) (st' := []) (mem' := pm_up mem 45 0 x1) hS hC 10 rfl ?_
  exact k

set_option maxRecDepth 20000 in
theorem bk_X10_roundsOf_54 {ro : pm_RO} {Q : Option Value → pm_M → Prop} {mem : pm_M} {x1 x2 x3 x4 x5 x6 s0 : Int32} {d7 d8 : Value} (k : pm_Ex ro m_X10_roundsOf 59 [.ref 33, .int x1, .int x2, .int x3, .int x4, .int x5, .int x6, .int s0, .int 0] [] mem Q) : pm_Ex ro m_X10_roundsOf 54 [.ref 33, .int x1, .int x2, .int x3, .int x4, .int x5, .int x6, d7, d8] [.int s0] mem Q := by
  have hS : pm_sig[m_X10_roundsOf]? = some _ := rfl
  have hC : pm_cod[m_X10_roundsOf]? = some _ := rfl
  refine ex_many (pc' := 59) (ls' := [.ref 33, .int x1, .int x2, .int x3, .int x4, .int x5, .int x6, .int s0, .int 0]) (st' := []) (mem' := mem) hS hC 3 rfl ?_
  exact k

set_option maxRecDepth 20000 in
theorem bk_X10_rounds_0 {ro : pm_RO} {Q : Option Value → pm_M → Prop} {mem : pm_M} {a1 a2 a3 : Int32} (k : (0 ≤ a1 ∧ a1 ≤ 9999 → (0 ≤ a2 ∧ a2 ≤ 9999 → (0 ≤ a3 ∧ a3 ≤ 2 → pm_Ex ro m_X10_roundsOf 0 [.ref 33, .int a1, .int a2, .int a3, .null, .null, .null, .null, .null] [] mem (fun v m => pm_Ex ro m_X10_rounds 33 [.ref 33, .int a1, .int a2, .int a3] (v.toList ++ []) m Q)) ∧ (¬ (0 ≤ a3 ∧ a3 ≤ 2) → Q (some (.int (-2))) mem)) ∧ (¬ (0 ≤ a2 ∧ a2 ≤ 9999) → Q (some (.int (-2))) mem)) ∧ (¬ (0 ≤ a1 ∧ a1 ≤ 9999) → Q (some (.int (-2))) mem)) : pm_Ex ro m_X10_rounds 0 [.ref 33, .int a1, .int a2, .int a3] [] mem Q := by
  have hS : pm_sig[m_X10_rounds]? = some _ := rfl
  have hC : pm_cod[m_X10_rounds]? = some _ := rfl
  refine ex_many (pc' := 1) (ls' := [.ref 33, .int a1, .int a2, .int a3]) (st' := [.int a1]) (mem' := mem) hS hC 1 rfl ?_
  refine ex_call (y' := m_X10_isNumber) (rest := []) (ent := [.int a1]) hS hC rfl rfl rfl rfl rfl rfl ?_
  refine bk_X10_isNumber_0 ?_
  show pm_Ex ro m_X10_rounds 4 [.ref 33, .int a1, .int a2, .int a3] [.int (zb (0 ≤ a1 ∧ a1 ≤ 9999))] mem Q
  refine ex_br (P := (zb (0 ≤ a1 ∧ a1 ≤ 9999)) = 0) (a := 36) (b := 7) (ls' := [.ref 33, .int a1, .int a2, .int a3]) (st' := []) (mem' := mem) hS hC rfl (fun h => ?_) (fun h => ?_)
  · replace k := k.2 (zb0 h)
    refine ex_many (pc' := 38) (ls' := [.ref 33, .int a1, .int a2, .int a3]) (st' := [.int (-2)]) (mem' := mem) hS hC 1 rfl ?_
    exact ex_ret (v := (some (.int (-2)))) hS hC rfl rfl rfl k
  · replace k := k.1 (zb1 h)
    refine ex_many (pc' := 8) (ls' := [.ref 33, .int a1, .int a2, .int a3]) (st' := [.int a2]) (mem' := mem) hS hC 1 rfl ?_
    refine ex_call (y' := m_X10_isNumber) (rest := []) (ent := [.int a2]) hS hC rfl rfl rfl rfl rfl rfl ?_
    refine bk_X10_isNumber_0 ?_
    show pm_Ex ro m_X10_rounds 11 [.ref 33, .int a1, .int a2, .int a3] [.int (zb (0 ≤ a2 ∧ a2 ≤ 9999))] mem Q
    refine ex_br (P := (zb (0 ≤ a2 ∧ a2 ≤ 9999)) = 0) (a := 36) (b := 14) (ls' := [.ref 33, .int a1, .int a2, .int a3]) (st' := []) (mem' := mem) hS hC rfl (fun h => ?_) (fun h => ?_)
    · replace k := k.2 (zb0 h)
      refine ex_many (pc' := 38) (ls' := [.ref 33, .int a1, .int a2, .int a3]) (st' := [.int (-2)]) (mem' := mem) hS hC 1 rfl ?_
      exact ex_ret (v := (some (.int (-2)))) hS hC rfl rfl rfl k
    · replace k := k.1 (zb1 h)
      refine ex_many (pc' := 20) (ls' := [.ref 33, .int a1, .int a2, .int a3]) (st' := [.long 2, .long 0, .long a3.toInt64]) (mem' := mem) hS hC 4 rfl ?_
      refine ex_call (y' := m_X10_in) (rest := []) (ent := [.long a3.toInt64, .null, .long 0, .null, .long 2, .null]) hS hC rfl rfl rfl rfl rfl rfl ?_
      refine sp_in32 (v := a3) (lo := 0) (hi := 2) (by decide) (by decide) ?_
      show pm_Ex ro m_X10_rounds 23 [.ref 33, .int a1, .int a2, .int a3] [.int (zb (0 ≤ a3 ∧ a3 ≤ 2))] mem Q
      refine ex_br (P := (zb (0 ≤ a3 ∧ a3 ≤ 2)) = 0) (a := 36) (b := 26) (ls' := [.ref 33, .int a1, .int a2, .int a3]) (st' := []) (mem' := mem) hS hC rfl (fun h => ?_) (fun h => ?_)
      · replace k := k.2 (zb0 h)
        refine ex_many (pc' := 38) (ls' := [.ref 33, .int a1, .int a2, .int a3]) (st' := [.int (-2)]) (mem' := mem) hS hC 1 rfl ?_
        exact ex_ret (v := (some (.int (-2)))) hS hC rfl rfl rfl k
      · replace k := k.1 (zb1 h)
        refine ex_many (pc' := 30) (ls' := [.ref 33, .int a1, .int a2, .int a3]) (st' := [.int a3, .int a2, .int a1, .ref 33]) (mem' := mem) hS hC 4 rfl ?_
        refine ex_call (y' := m_X10_roundsOf) (rest := []) (ent := [.ref 33, .int a1, .int a2, .int a3, .null, .null, .null, .null, .null]) hS hC rfl rfl rfl rfl rfl rfl ?_
        exact k

set_option maxRecDepth 20000 in
theorem bk_X10_rounds_33 {ro : pm_RO} {Q : Option Value → pm_M → Prop} {mem : pm_M} {x1 x2 x3 s0 : Int32} (k : Q (some (.int s0)) mem) : pm_Ex ro m_X10_rounds 33 [.ref 33, .int x1, .int x2, .int x3] [.int s0] mem Q := by
  have hS : pm_sig[m_X10_rounds]? = some _ := rfl
  have hC : pm_cod[m_X10_rounds]? = some _ := rfl
  refine ex_many (pc' := 38) (ls' := [.ref 33, .int x1, .int x2, .int x3]) (st' := [.int s0]) (mem' := mem) hS hC 1 rfl ?_
  exact ex_ret (v := (some (.int s0))) hS hC rfl rfl rfl k

set_option maxRecDepth 20000 in
theorem bk_X10_figuresOf_0 {ro : pm_RO} {Q : Option Value → pm_M → Prop} {mem : pm_M} {a1 a2 : Int32} (k : pm_Ex ro m_X10_figuresOf 5 [.ref 33, .int a1, .int a2, .int 1, .int 1, .null, .null, .null, .null, .null, .null, .null] [] mem Q) : pm_Ex ro m_X10_figuresOf 0 [.ref 33, .int a1, .int a2, .null, .null, .null, .null, .null, .null, .null, .null, .null] [] mem Q := by
  have hS : pm_sig[m_X10_figuresOf]? = some _ := rfl
  have hC : pm_cod[m_X10_figuresOf]? = some _ := rfl
  refine ex_many (pc' := 5) (ls' := [.ref 33, .int a1, .int a2, .int 1, .int 1, .null, .null, .null, .null, .null, .null, .null]) (st' := []) (mem' := mem) hS hC 4 rfl ?_
  exact k

set_option maxRecDepth 20000 in
theorem bk_X10_figuresOf_5 {ro : pm_RO} {Q : Option Value → pm_M → Prop} {mem : pm_M} {x1 x2 x3 x4 : Int32} (k : (x1 ≤ x4 → pm_Ex ro m_X10_figuresOf 44 [.ref 33, .int x1, .int x2, .int x3, .int 0, .int 0, .int 0, .int x3, .int (-1), .int x3, .null, .null] [] mem Q) ∧ (¬ (x1 ≤ x4) → pm_Ex ro m_X10_figuresOf 5 [.ref 33, .int x1, .int x2, .int (x3 * (mem 41 0)), .int (x4 + 1), .null, .null, .null, .null, .null, .null, .null] [] mem Q)) : pm_Ex ro m_X10_figuresOf 5 [.ref 33, .int x1, .int x2, .int x3, .int x4, .null, .null, .null, .null, .null, .null, .null] [] mem Q := by
  have hS : pm_sig[m_X10_figuresOf]? = some _ := rfl
  have hC : pm_cod[m_X10_figuresOf]? = some _ := rfl
  refine ex_many (pc' := 8) (ls' := [.ref 33, .int x1, .int x2, .int x3, .int x4, .null, .null, .null, .null, .null, .null, .null]) (st' := [.int x1, .int x4]) (mem' := mem) hS hC 2 rfl ?_
  refine ex_br (P := x1 ≤ x4) (a := 26) (b := 11) (ls' := [.ref 33, .int x1, .int x2, .int x3, .int x4, .null, .null, .null, .null, .null, .null, .null]) (st' := []) (mem' := mem) hS hC rfl (fun h => ?_) (fun h => ?_)
  · replace k := k.1 (h)
    refine ex_many (pc' := 44) (ls' := [.ref 33, .int x1, .int x2, .int x3, .int 0, .int 0, .int 0, .int x3, .int (-1), .int x3, .null, .null]) (st' := []) (mem' := mem) hS hC 12 rfl ?_
    exact k
  · replace k := k.2 (h)
    refine ex_many (pc' := 5) (ls' := [.ref 33, .int x1, .int x2, .int (x3 * (mem 41 0)), .int (x4 + 1), .null, .null, .null, .null, .null, .null, .null]) (st' := []) (mem' := mem) hS hC 9 rfl ?_
    exact k

set_option maxRecDepth 20000 in
theorem bk_X10_figuresOf_44 {ro : pm_RO} {Q : Option Value → pm_M → Prop} {mem : pm_M} {x1 x2 x3 x4 x5 x6 x7 x8 x9 : Int32} {d10 d11 : Value} (k : ((x3 * (mem 41 0)) ≤ x9 → Q (some (.int (if ¬ x2 = 0 then (if ¬ x2 = 1 then (if ¬ x2 = 2 then x7 else x6 : Int32) else x5 : Int32) else x4 : Int32))) mem) ∧ (¬ ((x3 * (mem 41 0)) ≤ x9) → pm_Ex ro m_X10_paidFor 0 [.ref 33, .int x9, .null, .null, .null, .null] [] mem (fun v m => pm_Ex ro m_X10_figuresOf 63 [.ref 33, .int x1, .int x2, .int x3, .int x4, .int x5, .int x6, .int x7, .int x8, .int x9, d10, d11] (v.toList ++ []) m Q))) : pm_Ex ro m_X10_figuresOf 44 [.ref 33, .int x1, .int x2, .int x3, .int x4, .int x5, .int x6, .int x7, .int x8, .int x9, d10, d11] [] mem Q := by
  have hS : pm_sig[m_X10_figuresOf]? = some _ := rfl
  have hC : pm_cod[m_X10_figuresOf]? = some _ := rfl
  refine ex_many (pc' := 54) (ls' := [.ref 33, .int x1, .int x2, .int x3, .int x4, .int x5, .int x6, .int x7, .int x8, .int x9, d10, d11]) (st' := [.int (x3 * (mem 41 0)), .int x9]) (mem' := mem) hS hC 7 rfl ?_
  refine ex_br (P := (x3 * (mem 41 0)) ≤ x9) (a := 166) (b := 57) (ls' := [.ref 33, .int x1, .int x2, .int x3, .int x4, .int x5, .int x6, .int x7, .int x8, .int x9, d10, d11]) (st' := []) (mem' := mem) hS hC rfl (fun h => ?_) (fun h => ?_)
  · replace k := k.1 (h)
    refine ex_many (pc' := 167) (ls' := [.ref 33, .int x1, .int x2, .int x3, .int x4, .int x5, .int x6, .int x7, .int x8, .int x9, d10, d11]) (st' := [.int x2]) (mem' := mem) hS hC 1 rfl ?_
    have kp37 : pm_Ex ro m_X10_figuresOf 197 [.ref 33, .int x1, .int x2, .int x3, .int x4, .int x5, .int x6, .int x7, .int x8, .int x9, d10, d11] [.int (if ¬ x2 = 0 then (if ¬ x2 = 1 then (if ¬ x2 = 2 then x7 else x6 : Int32) else x5 : Int32) else x4 : Int32)] mem Q := by
      exact ex_ret (v := (some (.int (if ¬ x2 = 0 then (if ¬ x2 = 1 then (if ¬ x2 = 2 then x7 else x6 : Int32) else x5 : Int32) else x4 : Int32)))) hS hC rfl rfl rfl k
    refine ex_br (P := ¬ x2 = 0) (a := 175) (b := 170) (ls' := [.ref 33, .int x1, .int x2, .int x3, .int x4, .int x5, .int x6, .int x7, .int x8, .int x9, d10, d11]) (st' := []) (mem' := mem) hS hC rfl (fun h => ?_) (fun h => ?_)
    · have kp37a : pm_Ex ro m_X10_figuresOf 197 [.ref 33, .int x1, .int x2, .int x3, .int x4, .int x5, .int x6, .int x7, .int x8, .int x9, d10, d11] [.int (if ¬ x2 = 1 then (if ¬ x2 = 2 then x7 else x6 : Int32) else x5 : Int32)] mem Q := pm_phi1 (f := fun z0 => pm_Ex ro m_X10_figuresOf 197 [.ref 33, .int x1, .int x2, .int x3, .int x4, .int x5, .int x6, .int x7, .int x8, .int x9, d10, d11] [.int z0] mem Q) (if_pos (h)) kp37
      have kp36 : pm_Ex ro m_X10_figuresOf 197 [.ref 33, .int x1, .int x2, .int x3, .int x4, .int x5, .int x6, .int x7, .int x8, .int x9, d10, d11] [.int (if ¬ x2 = 1 then (if ¬ x2 = 2 then x7 else x6 : Int32) else x5 : Int32)] mem Q := by
        exact kp37a
      refine ex_many (pc' := 177) (ls' := [.ref 33, .int x1, .int x2, .int x3, .int x4, .int x5, .int x6, .int x7, .int x8, .int x9, d10, d11]) (st' := [.int 1, .int x2]) (mem' := mem) hS hC 2 rfl ?_
      refine ex_br (P := ¬ x2 = 1) (a := 185) (b := 180) (ls' := [.ref 33, .int x1, .int x2, .int x3, .int x4, .int x5, .int x6, .int x7, .int x8, .int x9, d10, d11]) (st' := []) (mem' := mem) hS hC rfl (fun h => ?_) (fun h => ?_)
      · have kp36a : pm_Ex ro m_X10_figuresOf 197 [.ref 33, .int x1, .int x2, .int x3, .int x4, .int x5, .int x6, .int x7, .int x8, .int x9, d10, d11] [.int (if ¬ x2 = 2 then x7 else x6 : Int32)] mem Q := pm_phi1 (f := fun z0 => pm_Ex ro m_X10_figuresOf 197 [.ref 33, .int x1, .int x2, .int x3, .int x4, .int x5, .int x6, .int x7, .int x8, .int x9, d10, d11] [.int z0] mem Q) (if_pos (h)) kp36
        have kp35 : pm_Ex ro m_X10_figuresOf 197 [.ref 33, .int x1, .int x2, .int x3, .int x4, .int x5, .int x6, .int x7, .int x8, .int x9, d10, d11] [.int (if ¬ x2 = 2 then x7 else x6 : Int32)] mem Q := by
          exact kp36a
        refine ex_many (pc' := 187) (ls' := [.ref 33, .int x1, .int x2, .int x3, .int x4, .int x5, .int x6, .int x7, .int x8, .int x9, d10, d11]) (st' := [.int 2, .int x2]) (mem' := mem) hS hC 2 rfl ?_
        refine ex_br (P := ¬ x2 = 2) (a := 195) (b := 190) (ls' := [.ref 33, .int x1, .int x2, .int x3, .int x4, .int x5, .int x6, .int x7, .int x8, .int x9, d10, d11]) (st' := []) (mem' := mem) hS hC rfl (fun h => ?_) (fun h => ?_)
        · have kp35a : pm_Ex ro m_X10_figuresOf 197 [.ref 33, .int x1, .int x2, .int x3, .int x4, .int x5, .int x6, .int x7, .int x8, .int x9, d10, d11] [.int x7] mem Q := pm_phi1 (f := fun z0 => pm_Ex ro m_X10_figuresOf 197 [.ref 33, .int x1, .int x2, .int x3, .int x4, .int x5, .int x6, .int x7, .int x8, .int x9, d10, d11] [.int z0] mem Q) (if_pos (h)) kp35
          refine ex_many (pc' := 197) (ls' := [.ref 33, .int x1, .int x2, .int x3, .int x4, .int x5, .int x6, .int x7, .int x8, .int x9, d10, d11]) (st' := [.int x7]) (mem' := mem) hS hC 1 rfl ?_
          exact kp35a
        · have kp35b : pm_Ex ro m_X10_figuresOf 197 [.ref 33, .int x1, .int x2, .int x3, .int x4, .int x5, .int x6, .int x7, .int x8, .int x9, d10, d11] [.int x6] mem Q := pm_phi1 (f := fun z0 => pm_Ex ro m_X10_figuresOf 197 [.ref 33, .int x1, .int x2, .int x3, .int x4, .int x5, .int x6, .int x7, .int x8, .int x9, d10, d11] [.int z0] mem Q) (if_neg (h)) kp35
          refine ex_many (pc' := 197) (ls' := [.ref 33, .int x1, .int x2, .int x3, .int x4, .int x5, .int x6, .int x7, .int x8, .int x9, d10, d11]) (st' := [.int x6]) (mem' := mem) hS hC 2 rfl ?_
          exact kp35b
      · have kp36b : pm_Ex ro m_X10_figuresOf 197 [.ref 33, .int x1, .int x2, .int x3, .int x4, .int x5, .int x6, .int x7, .int x8, .int x9, d10, d11] [.int x5] mem Q := pm_phi1 (f := fun z0 => pm_Ex ro m_X10_figuresOf 197 [.ref 33, .int x1, .int x2, .int x3, .int x4, .int x5, .int x6, .int x7, .int x8, .int x9, d10, d11] [.int z0] mem Q) (if_neg (h)) kp36
        refine ex_many (pc' := 197) (ls' := [.ref 33, .int x1, .int x2, .int x3, .int x4, .int x5, .int x6, .int x7, .int x8, .int x9, d10, d11]) (st' := [.int x5]) (mem' := mem) hS hC 2 rfl ?_
        exact kp36b
    · have kp37b : pm_Ex ro m_X10_figuresOf 197 [.ref 33, .int x1, .int x2, .int x3, .int x4, .int x5, .int x6, .int x7, .int x8, .int x9, d10, d11] [.int x4] mem Q := pm_phi1 (f := fun z0 => pm_Ex ro m_X10_figuresOf 197 [.ref 33, .int x1, .int x2, .int x3, .int x4, .int x5, .int x6, .int x7, .int x8, .int x9, d10, d11] [.int z0] mem Q) (if_neg (h)) kp37
      refine ex_many (pc' := 197) (ls' := [.ref 33, .int x1, .int x2, .int x3, .int x4, .int x5, .int x6, .int x7, .int x8, .int x9, d10, d11]) (st' := [.int x4]) (mem' := mem) hS hC 2 rfl ?_
      exact kp37b
  · replace k := k.2 (h)
    refine ex_many (pc' := 60) (ls' := [.ref 33, .int x1, .int x2, .int x3, .int x4, .int x5, .int x6, .int x7, .int x8, .int x9, d10, d11]) (st' := [.int x9, .ref 33]) (mem' := mem) hS hC 2 rfl ?_
    refine ex_call (y' := m_X10_paidFor) (rest := []) (ent := [.ref 33, .int x9, .null, .null, .null, .null]) hS hC rfl rfl rfl rfl rfl rfl ?_
    exact k

set_option maxRecDepth 20000 in
theorem bk_X10_figuresOf_63 {ro : pm_RO} {Q : Option Value → pm_M → Prop} {mem : pm_M} {x1 x2 x3 x4 x5 x6 x7 x8 x9 s0 : Int32} {d10 d11 : Value} (k : pm_Ex ro m_X10_figuresOf 44 [.ref 33, .int x1, .int x2, .int x3, .int (x4 + (zb (¬ (¬ (s0 - x9) = 0)))), .int (x5 + (zb (¬ (0 ≤ (s0 - x9))))), .int (x6 + (zb (¬ ((s0 - x9) ≤ 0)))), .int (if (if 0 ≤ (s0 - x9) then s0 - x9 else -(s0 - x9) : Int32) ≤ x8 then x7 else x9 : Int32), .int (if (if 0 ≤ (s0 - x9) then s0 - x9 else -(s0 - x9) : Int32) ≤ x8 then x8 else (if 0 ≤ (s0 - x9) then s0 - x9 else -(s0 - x9) : Int32) : Int32), .int (x9 + 1), .int (s0 - x9), .int (if 0 ≤ (s0 - x9) then s0 - x9 else -(s0 - x9) : Int32)] [] mem Q) : pm_Ex ro m_X10_figuresOf 63 [.ref 33, .int x1, .int x2, .int x3, .int x4, .int x5, .int x6, .int x7, .int x8, .int x9, d10, d11] [.int s0] mem Q := by
  have hS : pm_sig[m_X10_figuresOf]? = some _ := rfl
  have hC : pm_cod[m_X10_figuresOf]? = some _ := rfl
  refine ex_many (pc' := 72) (ls' := [.ref 33, .int x1, .int x2, .int x3, .int x4, .int x5, .int x6, .int x7, .int x8, .int x9, .int (s0 - x9), d11]) (st' := [.int (s0 - x9), .int x4]) (mem' := mem) hS hC 5 rfl ?_
  have kp43 : pm_Ex ro m_X10_figuresOf 80 [.ref 33, .int x1, .int x2, .int x3, .int x4, .int x5, .int x6, .int x7, .int x8, .int x9, .int (s0 - x9), d11] [.int (zb (¬ (¬ (s0 - x9) = 0))), .int x4] mem Q := by
    refine ex_many (pc' := 87) (ls' := [.ref 33, .int x1, .int x2, .int x3, .int (x4 + (zb (¬ (¬ (s0 - x9) = 0)))), .int x5, .int x6, .int x7, .int x8, .int x9, .int (s0 - x9), d11]) (st' := [.int (s0 - x9), .int x5]) (mem' := mem) hS hC 4 rfl ?_
    have kp42 : pm_Ex ro m_X10_figuresOf 95 [.ref 33, .int x1, .int x2, .int x3, .int (x4 + (zb (¬ (¬ (s0 - x9) = 0)))), .int x5, .int x6, .int x7, .int x8, .int x9, .int (s0 - x9), d11] [.int (zb (¬ (0 ≤ (s0 - x9)))), .int x5] mem Q := by
      refine ex_many (pc' := 102) (ls' := [.ref 33, .int x1, .int x2, .int x3, .int (x4 + (zb (¬ (¬ (s0 - x9) = 0)))), .int (x5 + (zb (¬ (0 ≤ (s0 - x9))))), .int x6, .int x7, .int x8, .int x9, .int (s0 - x9), d11]) (st' := [.int (s0 - x9), .int x6]) (mem' := mem) hS hC 4 rfl ?_
      have kp41 : pm_Ex ro m_X10_figuresOf 110 [.ref 33, .int x1, .int x2, .int x3, .int (x4 + (zb (¬ (¬ (s0 - x9) = 0)))), .int (x5 + (zb (¬ (0 ≤ (s0 - x9))))), .int x6, .int x7, .int x8, .int x9, .int (s0 - x9), d11] [.int (zb (¬ ((s0 - x9) ≤ 0))), .int x6] mem Q := by
        refine ex_many (pc' := 115) (ls' := [.ref 33, .int x1, .int x2, .int x3, .int (x4 + (zb (¬ (¬ (s0 - x9) = 0)))), .int (x5 + (zb (¬ (0 ≤ (s0 - x9))))), .int (x6 + (zb (¬ ((s0 - x9) ≤ 0)))), .int x7, .int x8, .int x9, .int (s0 - x9), d11]) (st' := [.int (s0 - x9)]) (mem' := mem) hS hC 3 rfl ?_
        have kp40 : pm_Ex ro m_X10_figuresOf 126 [.ref 33, .int x1, .int x2, .int x3, .int (x4 + (zb (¬ (¬ (s0 - x9) = 0)))), .int (x5 + (zb (¬ (0 ≤ (s0 - x9))))), .int (x6 + (zb (¬ ((s0 - x9) ≤ 0)))), .int x7, .int x8, .int x9, .int (s0 - x9), d11] [.int (if 0 ≤ (s0 - x9) then s0 - x9 else -(s0 - x9) : Int32)] mem Q := by
          refine ex_many (pc' := 132) (ls' := [.ref 33, .int x1, .int x2, .int x3, .int (x4 + (zb (¬ (¬ (s0 - x9) = 0)))), .int (x5 + (zb (¬ (0 ≤ (s0 - x9))))), .int (x6 + (zb (¬ ((s0 - x9) ≤ 0)))), .int x7, .int x8, .int x9, .int (s0 - x9), .int (if 0 ≤ (s0 - x9) then s0 - x9 else -(s0 - x9) : Int32)]) (st' := [.int x8, .int (if 0 ≤ (s0 - x9) then s0 - x9 else -(s0 - x9) : Int32)]) (mem' := mem) hS hC 3 rfl ?_
          have kp39 : pm_Ex ro m_X10_figuresOf 142 [.ref 33, .int x1, .int x2, .int x3, .int (x4 + (zb (¬ (¬ (s0 - x9) = 0)))), .int (x5 + (zb (¬ (0 ≤ (s0 - x9))))), .int (x6 + (zb (¬ ((s0 - x9) ≤ 0)))), .int x7, .int x8, .int x9, .int (s0 - x9), .int (if 0 ≤ (s0 - x9) then s0 - x9 else -(s0 - x9) : Int32)] [.int (if (if 0 ≤ (s0 - x9) then s0 - x9 else -(s0 - x9) : Int32) ≤ x8 then x7 else x9 : Int32)] mem Q := by
            refine ex_many (pc' := 148) (ls' := [.ref 33, .int x1, .int x2, .int x3, .int (x4 + (zb (¬ (¬ (s0 - x9) = 0)))), .int (x5 + (zb (¬ (0 ≤ (s0 - x9))))), .int (x6 + (zb (¬ ((s0 - x9) ≤ 0)))), .int (if (if 0 ≤ (s0 - x9) then s0 - x9 else -(s0 - x9) : Int32) ≤ x8 then x7 else x9 : Int32), .int x8, .int x9, .int (s0 - x9), .int (if 0 ≤ (s0 - x9) then s0 - x9 else -(s0 - x9) : Int32)]) (st' := [.int x8, .int (if 0 ≤ (s0 - x9) then s0 - x9 else -(s0 - x9) : Int32)]) (mem' := mem) hS hC 3 rfl ?_
            have kp38 : pm_Ex ro m_X10_figuresOf 158 [.ref 33, .int x1, .int x2, .int x3, .int (x4 + (zb (¬ (¬ (s0 - x9) = 0)))), .int (x5 + (zb (¬ (0 ≤ (s0 - x9))))), .int (x6 + (zb (¬ ((s0 - x9) ≤ 0)))), .int (if (if 0 ≤ (s0 - x9) then s0 - x9 else -(s0 - x9) : Int32) ≤ x8 then x7 else x9 : Int32), .int x8, .int x9, .int (s0 - x9), .int (if 0 ≤ (s0 - x9) then s0 - x9 else -(s0 - x9) : Int32)] [.int (if (if 0 ≤ (s0 - x9) then s0 - x9 else -(s0 - x9) : Int32) ≤ x8 then x8 else (if 0 ≤ (s0 - x9) then s0 - x9 else -(s0 - x9) : Int32) : Int32)] mem Q := by
              refine ex_many (pc' := 44) (ls' := [.ref 33, .int x1, .int x2, .int x3, .int (x4 + (zb (¬ (¬ (s0 - x9) = 0)))), .int (x5 + (zb (¬ (0 ≤ (s0 - x9))))), .int (x6 + (zb (¬ ((s0 - x9) ≤ 0)))), .int (if (if 0 ≤ (s0 - x9) then s0 - x9 else -(s0 - x9) : Int32) ≤ x8 then x7 else x9 : Int32), .int (if (if 0 ≤ (s0 - x9) then s0 - x9 else -(s0 - x9) : Int32) ≤ x8 then x8 else (if 0 ≤ (s0 - x9) then s0 - x9 else -(s0 - x9) : Int32) : Int32), .int (x9 + 1), .int (s0 - x9), .int (if 0 ≤ (s0 - x9) then s0 - x9 else -(s0 - x9) : Int32)]) (st' := []) (mem' := mem) hS hC 3 rfl ?_
              exact k
            refine ex_br (P := (if 0 ≤ (s0 - x9) then s0 - x9 else -(s0 - x9) : Int32) ≤ x8) (a := 156) (b := 151) (ls' := [.ref 33, .int x1, .int x2, .int x3, .int (x4 + (zb (¬ (¬ (s0 - x9) = 0)))), .int (x5 + (zb (¬ (0 ≤ (s0 - x9))))), .int (x6 + (zb (¬ ((s0 - x9) ≤ 0)))), .int (if (if 0 ≤ (s0 - x9) then s0 - x9 else -(s0 - x9) : Int32) ≤ x8 then x7 else x9 : Int32), .int x8, .int x9, .int (s0 - x9), .int (if 0 ≤ (s0 - x9) then s0 - x9 else -(s0 - x9) : Int32)]) (st' := []) (mem' := mem) hS hC rfl (fun h => ?_) (fun h => ?_)
            · have kp38a : pm_Ex ro m_X10_figuresOf 158 [.ref 33, .int x1, .int x2, .int x3, .int (x4 + (zb (¬ (¬ (s0 - x9) = 0)))), .int (x5 + (zb (¬ (0 ≤ (s0 - x9))))), .int (x6 + (zb (¬ ((s0 - x9) ≤ 0)))), .int (if (if 0 ≤ (s0 - x9) then s0 - x9 else -(s0 - x9) : Int32) ≤ x8 then x7 else x9 : Int32), .int x8, .int x9, .int (s0 - x9), .int (if 0 ≤ (s0 - x9) then s0 - x9 else -(s0 - x9) : Int32)] [.int x8] mem Q := pm_phi1 (f := fun z0 => pm_Ex ro m_X10_figuresOf 158 [.ref 33, .int x1, .int x2, .int x3, .int (x4 + (zb (¬ (¬ (s0 - x9) = 0)))), .int (x5 + (zb (¬ (0 ≤ (s0 - x9))))), .int (x6 + (zb (¬ ((s0 - x9) ≤ 0)))), .int (if (if 0 ≤ (s0 - x9) then s0 - x9 else -(s0 - x9) : Int32) ≤ x8 then x7 else x9 : Int32), .int x8, .int x9, .int (s0 - x9), .int (if 0 ≤ (s0 - x9) then s0 - x9 else -(s0 - x9) : Int32)] [.int z0] mem Q) (if_pos (h)) kp38
              refine ex_many (pc' := 158) (ls' := [.ref 33, .int x1, .int x2, .int x3, .int (x4 + (zb (¬ (¬ (s0 - x9) = 0)))), .int (x5 + (zb (¬ (0 ≤ (s0 - x9))))), .int (x6 + (zb (¬ ((s0 - x9) ≤ 0)))), .int (if (if 0 ≤ (s0 - x9) then s0 - x9 else -(s0 - x9) : Int32) ≤ x8 then x7 else x9 : Int32), .int x8, .int x9, .int (s0 - x9), .int (if 0 ≤ (s0 - x9) then s0 - x9 else -(s0 - x9) : Int32)]) (st' := [.int x8]) (mem' := mem) hS hC 1 rfl ?_
              exact kp38a
            · have kp38b : pm_Ex ro m_X10_figuresOf 158 [.ref 33, .int x1, .int x2, .int x3, .int (x4 + (zb (¬ (¬ (s0 - x9) = 0)))), .int (x5 + (zb (¬ (0 ≤ (s0 - x9))))), .int (x6 + (zb (¬ ((s0 - x9) ≤ 0)))), .int (if (if 0 ≤ (s0 - x9) then s0 - x9 else -(s0 - x9) : Int32) ≤ x8 then x7 else x9 : Int32), .int x8, .int x9, .int (s0 - x9), .int (if 0 ≤ (s0 - x9) then s0 - x9 else -(s0 - x9) : Int32)] [.int (if 0 ≤ (s0 - x9) then s0 - x9 else -(s0 - x9) : Int32)] mem Q := pm_phi1 (f := fun z0 => pm_Ex ro m_X10_figuresOf 158 [.ref 33, .int x1, .int x2, .int x3, .int (x4 + (zb (¬ (¬ (s0 - x9) = 0)))), .int (x5 + (zb (¬ (0 ≤ (s0 - x9))))), .int (x6 + (zb (¬ ((s0 - x9) ≤ 0)))), .int (if (if 0 ≤ (s0 - x9) then s0 - x9 else -(s0 - x9) : Int32) ≤ x8 then x7 else x9 : Int32), .int x8, .int x9, .int (s0 - x9), .int (if 0 ≤ (s0 - x9) then s0 - x9 else -(s0 - x9) : Int32)] [.int z0] mem Q) (if_neg (h)) kp38
              refine ex_many (pc' := 158) (ls' := [.ref 33, .int x1, .int x2, .int x3, .int (x4 + (zb (¬ (¬ (s0 - x9) = 0)))), .int (x5 + (zb (¬ (0 ≤ (s0 - x9))))), .int (x6 + (zb (¬ ((s0 - x9) ≤ 0)))), .int (if (if 0 ≤ (s0 - x9) then s0 - x9 else -(s0 - x9) : Int32) ≤ x8 then x7 else x9 : Int32), .int x8, .int x9, .int (s0 - x9), .int (if 0 ≤ (s0 - x9) then s0 - x9 else -(s0 - x9) : Int32)]) (st' := [.int (if 0 ≤ (s0 - x9) then s0 - x9 else -(s0 - x9) : Int32)]) (mem' := mem) hS hC 2 rfl ?_
              exact kp38b
          refine ex_br (P := (if 0 ≤ (s0 - x9) then s0 - x9 else -(s0 - x9) : Int32) ≤ x8) (a := 140) (b := 135) (ls' := [.ref 33, .int x1, .int x2, .int x3, .int (x4 + (zb (¬ (¬ (s0 - x9) = 0)))), .int (x5 + (zb (¬ (0 ≤ (s0 - x9))))), .int (x6 + (zb (¬ ((s0 - x9) ≤ 0)))), .int x7, .int x8, .int x9, .int (s0 - x9), .int (if 0 ≤ (s0 - x9) then s0 - x9 else -(s0 - x9) : Int32)]) (st' := []) (mem' := mem) hS hC rfl (fun h => ?_) (fun h => ?_)
          · have kp39a : pm_Ex ro m_X10_figuresOf 142 [.ref 33, .int x1, .int x2, .int x3, .int (x4 + (zb (¬ (¬ (s0 - x9) = 0)))), .int (x5 + (zb (¬ (0 ≤ (s0 - x9))))), .int (x6 + (zb (¬ ((s0 - x9) ≤ 0)))), .int x7, .int x8, .int x9, .int (s0 - x9), .int (if 0 ≤ (s0 - x9) then s0 - x9 else -(s0 - x9) : Int32)] [.int x7] mem Q := pm_phi1 (f := fun z0 => pm_Ex ro m_X10_figuresOf 142 [.ref 33, .int x1, .int x2, .int x3, .int (x4 + (zb (¬ (¬ (s0 - x9) = 0)))), .int (x5 + (zb (¬ (0 ≤ (s0 - x9))))), .int (x6 + (zb (¬ ((s0 - x9) ≤ 0)))), .int x7, .int x8, .int x9, .int (s0 - x9), .int (if 0 ≤ (s0 - x9) then s0 - x9 else -(s0 - x9) : Int32)] [.int z0] mem Q) (if_pos (h)) kp39
            refine ex_many (pc' := 142) (ls' := [.ref 33, .int x1, .int x2, .int x3, .int (x4 + (zb (¬ (¬ (s0 - x9) = 0)))), .int (x5 + (zb (¬ (0 ≤ (s0 - x9))))), .int (x6 + (zb (¬ ((s0 - x9) ≤ 0)))), .int x7, .int x8, .int x9, .int (s0 - x9), .int (if 0 ≤ (s0 - x9) then s0 - x9 else -(s0 - x9) : Int32)]) (st' := [.int x7]) (mem' := mem) hS hC 1 rfl ?_
            exact kp39a
          · have kp39b : pm_Ex ro m_X10_figuresOf 142 [.ref 33, .int x1, .int x2, .int x3, .int (x4 + (zb (¬ (¬ (s0 - x9) = 0)))), .int (x5 + (zb (¬ (0 ≤ (s0 - x9))))), .int (x6 + (zb (¬ ((s0 - x9) ≤ 0)))), .int x7, .int x8, .int x9, .int (s0 - x9), .int (if 0 ≤ (s0 - x9) then s0 - x9 else -(s0 - x9) : Int32)] [.int x9] mem Q := pm_phi1 (f := fun z0 => pm_Ex ro m_X10_figuresOf 142 [.ref 33, .int x1, .int x2, .int x3, .int (x4 + (zb (¬ (¬ (s0 - x9) = 0)))), .int (x5 + (zb (¬ (0 ≤ (s0 - x9))))), .int (x6 + (zb (¬ ((s0 - x9) ≤ 0)))), .int x7, .int x8, .int x9, .int (s0 - x9), .int (if 0 ≤ (s0 - x9) then s0 - x9 else -(s0 - x9) : Int32)] [.int z0] mem Q) (if_neg (h)) kp39
            refine ex_many (pc' := 142) (ls' := [.ref 33, .int x1, .int x2, .int x3, .int (x4 + (zb (¬ (¬ (s0 - x9) = 0)))), .int (x5 + (zb (¬ (0 ≤ (s0 - x9))))), .int (x6 + (zb (¬ ((s0 - x9) ≤ 0)))), .int x7, .int x8, .int x9, .int (s0 - x9), .int (if 0 ≤ (s0 - x9) then s0 - x9 else -(s0 - x9) : Int32)]) (st' := [.int x9]) (mem' := mem) hS hC 2 rfl ?_
            exact kp39b
        refine ex_br (P := 0 ≤ (s0 - x9)) (a := 124) (b := 118) (ls' := [.ref 33, .int x1, .int x2, .int x3, .int (x4 + (zb (¬ (¬ (s0 - x9) = 0)))), .int (x5 + (zb (¬ (0 ≤ (s0 - x9))))), .int (x6 + (zb (¬ ((s0 - x9) ≤ 0)))), .int x7, .int x8, .int x9, .int (s0 - x9), d11]) (st' := []) (mem' := mem) hS hC rfl (fun h => ?_) (fun h => ?_)
        · have kp40a : pm_Ex ro m_X10_figuresOf 126 [.ref 33, .int x1, .int x2, .int x3, .int (x4 + (zb (¬ (¬ (s0 - x9) = 0)))), .int (x5 + (zb (¬ (0 ≤ (s0 - x9))))), .int (x6 + (zb (¬ ((s0 - x9) ≤ 0)))), .int x7, .int x8, .int x9, .int (s0 - x9), d11] [.int (s0 - x9)] mem Q := pm_phi1 (f := fun z0 => pm_Ex ro m_X10_figuresOf 126 [.ref 33, .int x1, .int x2, .int x3, .int (x4 + (zb (¬ (¬ (s0 - x9) = 0)))), .int (x5 + (zb (¬ (0 ≤ (s0 - x9))))), .int (x6 + (zb (¬ ((s0 - x9) ≤ 0)))), .int x7, .int x8, .int x9, .int (s0 - x9), d11] [.int z0] mem Q) (if_pos (h)) kp40
          refine ex_many (pc' := 126) (ls' := [.ref 33, .int x1, .int x2, .int x3, .int (x4 + (zb (¬ (¬ (s0 - x9) = 0)))), .int (x5 + (zb (¬ (0 ≤ (s0 - x9))))), .int (x6 + (zb (¬ ((s0 - x9) ≤ 0)))), .int x7, .int x8, .int x9, .int (s0 - x9), d11]) (st' := [.int (s0 - x9)]) (mem' := mem) hS hC 1 rfl ?_
          exact kp40a
        · have kp40b : pm_Ex ro m_X10_figuresOf 126 [.ref 33, .int x1, .int x2, .int x3, .int (x4 + (zb (¬ (¬ (s0 - x9) = 0)))), .int (x5 + (zb (¬ (0 ≤ (s0 - x9))))), .int (x6 + (zb (¬ ((s0 - x9) ≤ 0)))), .int x7, .int x8, .int x9, .int (s0 - x9), d11] [.int (-(s0 - x9))] mem Q := pm_phi1 (f := fun z0 => pm_Ex ro m_X10_figuresOf 126 [.ref 33, .int x1, .int x2, .int x3, .int (x4 + (zb (¬ (¬ (s0 - x9) = 0)))), .int (x5 + (zb (¬ (0 ≤ (s0 - x9))))), .int (x6 + (zb (¬ ((s0 - x9) ≤ 0)))), .int x7, .int x8, .int x9, .int (s0 - x9), d11] [.int z0] mem Q) (if_neg (h)) kp40
          refine ex_many (pc' := 126) (ls' := [.ref 33, .int x1, .int x2, .int x3, .int (x4 + (zb (¬ (¬ (s0 - x9) = 0)))), .int (x5 + (zb (¬ (0 ≤ (s0 - x9))))), .int (x6 + (zb (¬ ((s0 - x9) ≤ 0)))), .int x7, .int x8, .int x9, .int (s0 - x9), d11]) (st' := [.int (-(s0 - x9))]) (mem' := mem) hS hC 3 rfl ?_
          exact kp40b
      refine ex_br (P := (s0 - x9) ≤ 0) (a := 109) (b := 105) (ls' := [.ref 33, .int x1, .int x2, .int x3, .int (x4 + (zb (¬ (¬ (s0 - x9) = 0)))), .int (x5 + (zb (¬ (0 ≤ (s0 - x9))))), .int x6, .int x7, .int x8, .int x9, .int (s0 - x9), d11]) (st' := [.int x6]) (mem' := mem) hS hC rfl (fun h => ?_) (fun h => ?_)
      · have kp41a : pm_Ex ro m_X10_figuresOf 110 [.ref 33, .int x1, .int x2, .int x3, .int (x4 + (zb (¬ (¬ (s0 - x9) = 0)))), .int (x5 + (zb (¬ (0 ≤ (s0 - x9))))), .int x6, .int x7, .int x8, .int x9, .int (s0 - x9), d11] [.int 0, .int x6] mem Q := pm_phi1 (f := fun z0 => pm_Ex ro m_X10_figuresOf 110 [.ref 33, .int x1, .int x2, .int x3, .int (x4 + (zb (¬ (¬ (s0 - x9) = 0)))), .int (x5 + (zb (¬ (0 ≤ (s0 - x9))))), .int x6, .int x7, .int x8, .int x9, .int (s0 - x9), d11] [.int z0, .int x6] mem Q) (zb_npos (h)) kp41
        refine ex_many (pc' := 110) (ls' := [.ref 33, .int x1, .int x2, .int x3, .int (x4 + (zb (¬ (¬ (s0 - x9) = 0)))), .int (x5 + (zb (¬ (0 ≤ (s0 - x9))))), .int x6, .int x7, .int x8, .int x9, .int (s0 - x9), d11]) (st' := [.int 0, .int x6]) (mem' := mem) hS hC 1 rfl ?_
        exact kp41a
      · have kp41b : pm_Ex ro m_X10_figuresOf 110 [.ref 33, .int x1, .int x2, .int x3, .int (x4 + (zb (¬ (¬ (s0 - x9) = 0)))), .int (x5 + (zb (¬ (0 ≤ (s0 - x9))))), .int x6, .int x7, .int x8, .int x9, .int (s0 - x9), d11] [.int 1, .int x6] mem Q := pm_phi1 (f := fun z0 => pm_Ex ro m_X10_figuresOf 110 [.ref 33, .int x1, .int x2, .int x3, .int (x4 + (zb (¬ (¬ (s0 - x9) = 0)))), .int (x5 + (zb (¬ (0 ≤ (s0 - x9))))), .int x6, .int x7, .int x8, .int x9, .int (s0 - x9), d11] [.int z0, .int x6] mem Q) (zb_nneg (h)) kp41
        refine ex_many (pc' := 110) (ls' := [.ref 33, .int x1, .int x2, .int x3, .int (x4 + (zb (¬ (¬ (s0 - x9) = 0)))), .int (x5 + (zb (¬ (0 ≤ (s0 - x9))))), .int x6, .int x7, .int x8, .int x9, .int (s0 - x9), d11]) (st' := [.int 1, .int x6]) (mem' := mem) hS hC 2 rfl ?_
        exact kp41b
    refine ex_br (P := 0 ≤ (s0 - x9)) (a := 94) (b := 90) (ls' := [.ref 33, .int x1, .int x2, .int x3, .int (x4 + (zb (¬ (¬ (s0 - x9) = 0)))), .int x5, .int x6, .int x7, .int x8, .int x9, .int (s0 - x9), d11]) (st' := [.int x5]) (mem' := mem) hS hC rfl (fun h => ?_) (fun h => ?_)
    · have kp42a : pm_Ex ro m_X10_figuresOf 95 [.ref 33, .int x1, .int x2, .int x3, .int (x4 + (zb (¬ (¬ (s0 - x9) = 0)))), .int x5, .int x6, .int x7, .int x8, .int x9, .int (s0 - x9), d11] [.int 0, .int x5] mem Q := pm_phi1 (f := fun z0 => pm_Ex ro m_X10_figuresOf 95 [.ref 33, .int x1, .int x2, .int x3, .int (x4 + (zb (¬ (¬ (s0 - x9) = 0)))), .int x5, .int x6, .int x7, .int x8, .int x9, .int (s0 - x9), d11] [.int z0, .int x5] mem Q) (zb_npos (h)) kp42
      refine ex_many (pc' := 95) (ls' := [.ref 33, .int x1, .int x2, .int x3, .int (x4 + (zb (¬ (¬ (s0 - x9) = 0)))), .int x5, .int x6, .int x7, .int x8, .int x9, .int (s0 - x9), d11]) (st' := [.int 0, .int x5]) (mem' := mem) hS hC 1 rfl ?_
      exact kp42a
    · have kp42b : pm_Ex ro m_X10_figuresOf 95 [.ref 33, .int x1, .int x2, .int x3, .int (x4 + (zb (¬ (¬ (s0 - x9) = 0)))), .int x5, .int x6, .int x7, .int x8, .int x9, .int (s0 - x9), d11] [.int 1, .int x5] mem Q := pm_phi1 (f := fun z0 => pm_Ex ro m_X10_figuresOf 95 [.ref 33, .int x1, .int x2, .int x3, .int (x4 + (zb (¬ (¬ (s0 - x9) = 0)))), .int x5, .int x6, .int x7, .int x8, .int x9, .int (s0 - x9), d11] [.int z0, .int x5] mem Q) (zb_nneg (h)) kp42
      refine ex_many (pc' := 95) (ls' := [.ref 33, .int x1, .int x2, .int x3, .int (x4 + (zb (¬ (¬ (s0 - x9) = 0)))), .int x5, .int x6, .int x7, .int x8, .int x9, .int (s0 - x9), d11]) (st' := [.int 1, .int x5]) (mem' := mem) hS hC 2 rfl ?_
      exact kp42b
  refine ex_br (P := ¬ (s0 - x9) = 0) (a := 79) (b := 75) (ls' := [.ref 33, .int x1, .int x2, .int x3, .int x4, .int x5, .int x6, .int x7, .int x8, .int x9, .int (s0 - x9), d11]) (st' := [.int x4]) (mem' := mem) hS hC rfl (fun h => ?_) (fun h => ?_)
  · have kp43a : pm_Ex ro m_X10_figuresOf 80 [.ref 33, .int x1, .int x2, .int x3, .int x4, .int x5, .int x6, .int x7, .int x8, .int x9, .int (s0 - x9), d11] [.int 0, .int x4] mem Q := pm_phi1 (f := fun z0 => pm_Ex ro m_X10_figuresOf 80 [.ref 33, .int x1, .int x2, .int x3, .int x4, .int x5, .int x6, .int x7, .int x8, .int x9, .int (s0 - x9), d11] [.int z0, .int x4] mem Q) (zb_npos (h)) kp43
    refine ex_many (pc' := 80) (ls' := [.ref 33, .int x1, .int x2, .int x3, .int x4, .int x5, .int x6, .int x7, .int x8, .int x9, .int (s0 - x9), d11]) (st' := [.int 0, .int x4]) (mem' := mem) hS hC 1 rfl ?_
    exact kp43a
  · have kp43b : pm_Ex ro m_X10_figuresOf 80 [.ref 33, .int x1, .int x2, .int x3, .int x4, .int x5, .int x6, .int x7, .int x8, .int x9, .int (s0 - x9), d11] [.int 1, .int x4] mem Q := pm_phi1 (f := fun z0 => pm_Ex ro m_X10_figuresOf 80 [.ref 33, .int x1, .int x2, .int x3, .int x4, .int x5, .int x6, .int x7, .int x8, .int x9, .int (s0 - x9), d11] [.int z0, .int x4] mem Q) (zb_nneg (h)) kp43
    refine ex_many (pc' := 80) (ls' := [.ref 33, .int x1, .int x2, .int x3, .int x4, .int x5, .int x6, .int x7, .int x8, .int x9, .int (s0 - x9), d11]) (st' := [.int 1, .int x4]) (mem' := mem) hS hC 2 rfl ?_
    exact kp43b

set_option maxRecDepth 20000 in
theorem bk_X10_figures_0 {ro : pm_RO} {Q : Option Value → pm_M → Prop} {mem : pm_M} {a1 a2 : Int32} (k : (1 ≤ a1 ∧ a1 ≤ 3 → (0 ≤ a2 ∧ a2 ≤ 3 → pm_Ex ro m_X10_figuresOf 0 [.ref 33, .int a1, .int a2, .null, .null, .null, .null, .null, .null, .null, .null, .null] [] mem (fun v m => pm_Ex ro m_X10_figures 30 [.ref 33, .int a1, .int a2] (v.toList ++ []) m Q)) ∧ (¬ (0 ≤ a2 ∧ a2 ≤ 3) → Q (some (.int (-2))) mem)) ∧ (¬ (1 ≤ a1 ∧ a1 ≤ 3) → Q (some (.int (-2))) mem)) : pm_Ex ro m_X10_figures 0 [.ref 33, .int a1, .int a2] [] mem Q := by
  have hS : pm_sig[m_X10_figures]? = some _ := rfl
  have hC : pm_cod[m_X10_figures]? = some _ := rfl
  refine ex_many (pc' := 6) (ls' := [.ref 33, .int a1, .int a2]) (st' := [.long 3, .long 1, .long a1.toInt64]) (mem' := mem) hS hC 4 rfl ?_
  refine ex_call (y' := m_X10_in) (rest := []) (ent := [.long a1.toInt64, .null, .long 1, .null, .long 3, .null]) hS hC rfl rfl rfl rfl rfl rfl ?_
  refine sp_in32 (v := a1) (lo := 1) (hi := 3) (by decide) (by decide) ?_
  show pm_Ex ro m_X10_figures 9 [.ref 33, .int a1, .int a2] [.int (zb (1 ≤ a1 ∧ a1 ≤ 3))] mem Q
  refine ex_br (P := (zb (1 ≤ a1 ∧ a1 ≤ 3)) = 0) (a := 33) (b := 12) (ls' := [.ref 33, .int a1, .int a2]) (st' := []) (mem' := mem) hS hC rfl (fun h => ?_) (fun h => ?_)
  · replace k := k.2 (zb0 h)
    refine ex_many (pc' := 35) (ls' := [.ref 33, .int a1, .int a2]) (st' := [.int (-2)]) (mem' := mem) hS hC 1 rfl ?_
    exact ex_ret (v := (some (.int (-2)))) hS hC rfl rfl rfl k
  · replace k := k.1 (zb1 h)
    refine ex_many (pc' := 18) (ls' := [.ref 33, .int a1, .int a2]) (st' := [.long 3, .long 0, .long a2.toInt64]) (mem' := mem) hS hC 4 rfl ?_
    refine ex_call (y' := m_X10_in) (rest := []) (ent := [.long a2.toInt64, .null, .long 0, .null, .long 3, .null]) hS hC rfl rfl rfl rfl rfl rfl ?_
    refine sp_in32 (v := a2) (lo := 0) (hi := 3) (by decide) (by decide) ?_
    show pm_Ex ro m_X10_figures 21 [.ref 33, .int a1, .int a2] [.int (zb (0 ≤ a2 ∧ a2 ≤ 3))] mem Q
    refine ex_br (P := (zb (0 ≤ a2 ∧ a2 ≤ 3)) = 0) (a := 33) (b := 24) (ls' := [.ref 33, .int a1, .int a2]) (st' := []) (mem' := mem) hS hC rfl (fun h => ?_) (fun h => ?_)
    · replace k := k.2 (zb0 h)
      refine ex_many (pc' := 35) (ls' := [.ref 33, .int a1, .int a2]) (st' := [.int (-2)]) (mem' := mem) hS hC 1 rfl ?_
      exact ex_ret (v := (some (.int (-2)))) hS hC rfl rfl rfl k
    · replace k := k.1 (zb1 h)
      refine ex_many (pc' := 27) (ls' := [.ref 33, .int a1, .int a2]) (st' := [.int a2, .int a1, .ref 33]) (mem' := mem) hS hC 3 rfl ?_
      refine ex_call (y' := m_X10_figuresOf) (rest := []) (ent := [.ref 33, .int a1, .int a2, .null, .null, .null, .null, .null, .null, .null, .null, .null]) hS hC rfl rfl rfl rfl rfl rfl ?_
      exact k

set_option maxRecDepth 20000 in
theorem bk_X10_figures_30 {ro : pm_RO} {Q : Option Value → pm_M → Prop} {mem : pm_M} {x1 x2 s0 : Int32} (k : Q (some (.int s0)) mem) : pm_Ex ro m_X10_figures 30 [.ref 33, .int x1, .int x2] [.int s0] mem Q := by
  have hS : pm_sig[m_X10_figures]? = some _ := rfl
  have hC : pm_cod[m_X10_figures]? = some _ := rfl
  refine ex_many (pc' := 35) (ls' := [.ref 33, .int x1, .int x2]) (st' := [.int s0]) (mem' := mem) hS hC 1 rfl ?_
  exact ex_ret (v := (some (.int s0))) hS hC rfl rfl rfl k

set_option maxRecDepth 20000 in
theorem bk_X10_rentOf_0 {ro : pm_RO} {Q : Option Value → pm_M → Prop} {mem : pm_M} {a1 a2 a3 : Int32} (k : pm_Ex ro m_X10_rentOf 3 [.ref 33, .int a1, .int a2, .int a3, .int 0, .null, .null, .null, .null] [] mem Q) : pm_Ex ro m_X10_rentOf 0 [.ref 33, .int a1, .int a2, .int a3, .null, .null, .null, .null, .null] [] mem Q := by
  have hS : pm_sig[m_X10_rentOf]? = some _ := rfl
  have hC : pm_cod[m_X10_rentOf]? = some _ := rfl
  refine ex_many (pc' := 3) (ls' := [.ref 33, .int a1, .int a2, .int a3, .int 0, .null, .null, .null, .null]) (st' := []) (mem' := mem) hS hC 2 rfl ?_
  exact k

set_option maxRecDepth 20000 in
theorem bk_X10_rentOf_3 {ro : pm_RO} {Q : Option Value → pm_M → Prop} {mem : pm_M} {x1 x2 x3 x4 : Int32} (k : (x1 < x4 → pm_Ex ro m_X10_rentOf 31 [.ref 33, .int x1, .int x2, .int x3, .int 1, .null, .null, .null, .null] [] mem Q) ∧ (¬ (x1 < x4) → pm_Ex ro m_X10_paidFor 0 [.ref 33, .int x4, .null, .null, .null, .null] [] mem (fun v m => pm_Ex ro m_X10_rentOf 21 [.ref 33, .int x1, .int x2, .int x3, .int x4, .null, .null, .null, .null] (v.toList ++ [.int x4, .ref 46]) m Q))) : pm_Ex ro m_X10_rentOf 3 [.ref 33, .int x1, .int x2, .int x3, .int x4, .null, .null, .null, .null] [] mem Q := by
  have hS : pm_sig[m_X10_rentOf]? = some _ := rfl
  have hC : pm_cod[m_X10_rentOf]? = some _ := rfl
  refine ex_many (pc' := 6) (ls' := [.ref 33, .int x1, .int x2, .int x3, .int x4, .null, .null, .null, .null]) (st' := [.int x1, .int x4]) (mem' := mem) hS hC 2 rfl ?_
  refine ex_br (P := x1 < x4) (a := 28) (b := 9) (ls' := [.ref 33, .int x1, .int x2, .int x3, .int x4, .null, .null, .null, .null]) (st' := []) (mem' := mem) hS hC rfl (fun h => ?_) (fun h => ?_)
  · replace k := k.1 (h)
    refine ex_many (pc' := 31) (ls' := [.ref 33, .int x1, .int x2, .int x3, .int 1, .null, .null, .null, .null]) (st' := []) (mem' := mem) hS hC 2 rfl ?_
    exact k
  · replace k := k.2 (h)
    refine ex_many (pc' := 18) (ls' := [.ref 33, .int x1, .int x2, .int x3, .int x4, .null, .null, .null, .null]) (st' := [.int x4, .ref 33, .int x4, .ref 46]) (mem' := mem) hS hC 5 rfl ?_
    refine ex_call (y' := m_X10_paidFor) (rest := [.int x4, .ref 46]) (ent := [.ref 33, .int x4, .null, .null, .null, .null]) hS hC rfl rfl rfl rfl rfl rfl ?_
    exact k

set_option maxRecDepth 20000 in
theorem bk_X10_rentOf_31 {ro : pm_RO} {Q : Option Value → pm_M → Prop} {mem : pm_M} {x1 x2 x3 x4 : Int32} {d5 d6 d7 d8 : Value} (k : (x2 ≤ x4 → (pm_inb x1 121 = true) ∧ (Q (some (.int (mem 46 x1.toNatClampNeg))) mem)) ∧ (¬ (x2 ≤ x4) → pm_Ex ro m_X10_rentOf 40 [.ref 33, .int x1, .int x2, .int x3, .int x4, .int 0, d6, d7, d8] [] mem Q)) : pm_Ex ro m_X10_rentOf 31 [.ref 33, .int x1, .int x2, .int x3, .int x4, d5, d6, d7, d8] [] mem Q := by
  have hS : pm_sig[m_X10_rentOf]? = some _ := rfl
  have hC : pm_cod[m_X10_rentOf]? = some _ := rfl
  refine ex_many (pc' := 34) (ls' := [.ref 33, .int x1, .int x2, .int x3, .int x4, d5, d6, d7, d8]) (st' := [.int x2, .int x4]) (mem' := mem) hS hC 2 rfl ?_
  refine ex_br (P := x2 ≤ x4) (a := 170) (b := 37) (ls' := [.ref 33, .int x1, .int x2, .int x3, .int x4, d5, d6, d7, d8]) (st' := []) (mem' := mem) hS hC rfl (fun h => ?_) (fun h => ?_)
  · replace k := k.1 (h)
    refine ex_many (pc' := 175) (ls' := [.ref 33, .int x1, .int x2, .int x3, .int x4, d5, d6, d7, d8]) (st' := [.int x1, .ref 46]) (mem' := mem) hS hC 3 rfl ?_
    refine ex_grd (b := pm_inb x1 121) (pc' := 176) (ls' := [.ref 33, .int x1, .int x2, .int x3, .int x4, d5, d6, d7, d8]) (st' := [.int (mem 46 x1.toNatClampNeg)]) (mem' := mem) hS hC rfl k.1 ?_
    replace k := k.2
    exact ex_ret (v := (some (.int (mem 46 x1.toNatClampNeg)))) hS hC rfl rfl rfl k
  · replace k := k.2 (h)
    refine ex_many (pc' := 40) (ls' := [.ref 33, .int x1, .int x2, .int x3, .int x4, .int 0, d6, d7, d8]) (st' := []) (mem' := mem) hS hC 2 rfl ?_
    exact k

set_option maxRecDepth 20000 in
theorem bk_X10_rentOf_40 {ro : pm_RO} {Q : Option Value → pm_M → Prop} {mem : pm_M} {x1 x2 x3 x4 x5 : Int32} {d6 d7 d8 : Value} (k : (x1 < x5 → pm_Ex ro m_X10_rentOf 138 [.ref 33, .int x1, .int x2, .int x3, .int x4, .int 0, d6, d7, d8] [] mem Q) ∧ (¬ (x1 < x5) → (pm_inb x5 121 = true) ∧ (pm_Ex ro m_X10_rentOf 58 [.ref 33, .int x1, .int x2, .int x3, .int x4, .int x5, .int (mem 46 x5.toNatClampNeg), .int 1, d8] [] mem Q))) : pm_Ex ro m_X10_rentOf 40 [.ref 33, .int x1, .int x2, .int x3, .int x4, .int x5, d6, d7, d8] [] mem Q := by
  have hS : pm_sig[m_X10_rentOf]? = some _ := rfl
  have hC : pm_cod[m_X10_rentOf]? = some _ := rfl
  refine ex_many (pc' := 43) (ls' := [.ref 33, .int x1, .int x2, .int x3, .int x4, .int x5, d6, d7, d8]) (st' := [.int x1, .int x5]) (mem' := mem) hS hC 2 rfl ?_
  refine ex_br (P := x1 < x5) (a := 135) (b := 46) (ls' := [.ref 33, .int x1, .int x2, .int x3, .int x4, .int x5, d6, d7, d8]) (st' := []) (mem' := mem) hS hC rfl (fun h => ?_) (fun h => ?_)
  · replace k := k.1 (h)
    refine ex_many (pc' := 138) (ls' := [.ref 33, .int x1, .int x2, .int x3, .int x4, .int 0, d6, d7, d8]) (st' := []) (mem' := mem) hS hC 2 rfl ?_
    exact k
  · replace k := k.2 (h)
    refine ex_many (pc' := 52) (ls' := [.ref 33, .int x1, .int x2, .int x3, .int x4, .int x5, d6, d7, d8]) (st' := [.int x5, .ref 46]) (mem' := mem) hS hC 3 rfl ?_
    refine ex_grd (b := pm_inb x5 121) (pc' := 53) (ls' := [.ref 33, .int x1, .int x2, .int x3, .int x4, .int x5, d6, d7, d8]) (st' := [.int (mem 46 x5.toNatClampNeg)]) (mem' := mem) hS hC rfl k.1 ?_
    replace k := k.2
    refine ex_many (pc' := 58) (ls' := [.ref 33, .int x1, .int x2, .int x3, .int x4, .int x5, .int (mem 46 x5.toNatClampNeg), .int 1, d8]) (st' := []) (mem' := mem) hS hC 3 rfl ?_
    exact k

set_option maxRecDepth 20000 in
theorem bk_X10_rentOf_58 {ro : pm_RO} {Q : Option Value → pm_M → Prop} {mem : pm_M} {x1 x2 x3 x4 x5 x6 x7 : Int32} {d8 : Value} (k : (x5 < x7 → (pm_inb x5 121 = true) ∧ (pm_Ex ro m_X10_rentOf 40 [.ref 33, .int x1, .int x2, .int x3, .int x4, .int (x5 + 1), .int x6, .int x7, d8] [] (pm_up mem 47 x5.toNatClampNeg x6) Q)) ∧ (¬ (x5 < x7) → pm_Ex ro m_X10_paidFor 0 [.ref 33, .int x7, .null, .null, .null, .null] [] mem (fun v m => pm_Ex ro m_X10_rentOf 71 [.ref 33, .int x1, .int x2, .int x3, .int x4, .int x5, .int x6, .int x7, d8] (v.toList ++ []) m Q))) : pm_Ex ro m_X10_rentOf 58 [.ref 33, .int x1, .int x2, .int x3, .int x4, .int x5, .int x6, .int x7, d8] [] mem Q := by
  have hS : pm_sig[m_X10_rentOf]? = some _ := rfl
  have hC : pm_cod[m_X10_rentOf]? = some _ := rfl
  refine ex_many (pc' := 62) (ls' := [.ref 33, .int x1, .int x2, .int x3, .int x4, .int x5, .int x6, .int x7, d8]) (st' := [.int x5, .int x7]) (mem' := mem) hS hC 2 rfl ?_
  refine ex_br (P := x5 < x7) (a := 120) (b := 65) (ls' := [.ref 33, .int x1, .int x2, .int x3, .int x4, .int x5, .int x6, .int x7, d8]) (st' := []) (mem' := mem) hS hC rfl (fun h => ?_) (fun h => ?_)
  · replace k := k.1 (h)
    refine ex_many (pc' := 128) (ls' := [.ref 33, .int x1, .int x2, .int x3, .int x4, .int x5, .int x6, .int x7, d8]) (st' := [.int x6, .int x5, .ref 47]) (mem' := mem) hS hC 4 rfl ?_
    refine ex_grd (b := pm_inb x5 121) (pc' := 129) (ls' := [.ref 33, .int x1, .int x2, .int x3, .int x4, .int x5, .int x6, .int x7, d8]) (st' := []) (mem' := pm_up mem 47 x5.toNatClampNeg x6) hS hC rfl k.1 ?_
    replace k := k.2
    refine ex_many (pc' := 40) (ls' := [.ref 33, .int x1, .int x2, .int x3, .int x4, .int (x5 + 1), .int x6, .int x7, d8]) (st' := []) (mem' := pm_up mem 47 x5.toNatClampNeg x6) hS hC 2 rfl ?_
    exact k
  · replace k := k.2 (h)
    refine ex_many (pc' := 68) (ls' := [.ref 33, .int x1, .int x2, .int x3, .int x4, .int x5, .int x6, .int x7, d8]) (st' := [.int x7, .ref 33]) (mem' := mem) hS hC 2 rfl ?_
    refine ex_call (y' := m_X10_paidFor) (rest := []) (ent := [.ref 33, .int x7, .null, .null, .null, .null]) hS hC rfl rfl rfl rfl rfl rfl ?_
    exact k

set_option maxRecDepth 20000 in
theorem bk_X10_rentOf_138 {ro : pm_RO} {Q : Option Value → pm_M → Prop} {mem : pm_M} {x1 x2 x3 x4 x5 : Int32} {d6 d7 d8 : Value} (k : (x1 < x5 → pm_Ex ro m_X10_rentOf 31 [.ref 33, .int x1, .int x2, .int x3, .int (x4 + 1), .int x5, d6, d7, d8] [] mem Q) ∧ (¬ (x1 < x5) → (pm_inb x5 121 = true) ∧ ((pm_inb x5 121 = true) ∧ (pm_Ex ro m_X10_rentOf 138 [.ref 33, .int x1, .int x2, .int x3, .int x4, .int (x5 + 1), d6, d7, d8] [] (pm_up mem 46 x5.toNatClampNeg (mem 47 x5.toNatClampNeg)) Q)))) : pm_Ex ro m_X10_rentOf 138 [.ref 33, .int x1, .int x2, .int x3, .int x4, .int x5, d6, d7, d8] [] mem Q := by
  have hS : pm_sig[m_X10_rentOf]? = some _ := rfl
  have hC : pm_cod[m_X10_rentOf]? = some _ := rfl
  refine ex_many (pc' := 141) (ls' := [.ref 33, .int x1, .int x2, .int x3, .int x4, .int x5, d6, d7, d8]) (st' := [.int x1, .int x5]) (mem' := mem) hS hC 2 rfl ?_
  refine ex_br (P := x1 < x5) (a := 164) (b := 144) (ls' := [.ref 33, .int x1, .int x2, .int x3, .int x4, .int x5, d6, d7, d8]) (st' := []) (mem' := mem) hS hC rfl (fun h => ?_) (fun h => ?_)
  · replace k := k.1 (h)
    refine ex_many (pc' := 31) (ls' := [.ref 33, .int x1, .int x2, .int x3, .int (x4 + 1), .int x5, d6, d7, d8]) (st' := []) (mem' := mem) hS hC 2 rfl ?_
    exact k
  · replace k := k.2 (h)
    refine ex_many (pc' := 156) (ls' := [.ref 33, .int x1, .int x2, .int x3, .int x4, .int x5, d6, d7, d8]) (st' := [.int x5, .ref 47, .int x5, .ref 46]) (mem' := mem) hS hC 6 rfl ?_
    refine ex_grd (b := pm_inb x5 121) (pc' := 157) (ls' := [.ref 33, .int x1, .int x2, .int x3, .int x4, .int x5, d6, d7, d8]) (st' := [.int (mem 47 x5.toNatClampNeg), .int x5, .ref 46]) (mem' := mem) hS hC rfl k.1 ?_
    replace k := k.2
    refine ex_grd (b := pm_inb x5 121) (pc' := 158) (ls' := [.ref 33, .int x1, .int x2, .int x3, .int x4, .int x5, d6, d7, d8]) (st' := []) (mem' := pm_up mem 46 x5.toNatClampNeg (mem 47 x5.toNatClampNeg)) hS hC rfl k.1 ?_
    replace k := k.2
    refine ex_many (pc' := 138) (ls' := [.ref 33, .int x1, .int x2, .int x3, .int x4, .int (x5 + 1), d6, d7, d8]) (st' := []) (mem' := pm_up mem 46 x5.toNatClampNeg (mem 47 x5.toNatClampNeg)) hS hC 2 rfl ?_
    exact k

set_option maxRecDepth 20000 in
theorem bk_X10_rentOf_21 {ro : pm_RO} {Q : Option Value → pm_M → Prop} {mem : pm_M} {x1 x2 x3 x4 s0 s1 : Int32} (k : (pm_inb s1 121 = true) ∧ (pm_Ex ro m_X10_rentOf 3 [.ref 33, .int x1, .int x2, .int x3, .int (x4 + 1), .null, .null, .null, .null] [] (pm_up mem 46 s1.toNatClampNeg s0) Q)) : pm_Ex ro m_X10_rentOf 21 [.ref 33, .int x1, .int x2, .int x3, .int x4, .null, .null, .null, .null] [.int s0, .int s1, .ref 46] mem Q := by
  have hS : pm_sig[m_X10_rentOf]? = some _ := rfl
  have hC : pm_cod[m_X10_rentOf]? = some _ := rfl
  refine ex_grd (b := pm_inb s1 121) (pc' := 22) (ls' := [.ref 33, .int x1, .int x2, .int x3, .int x4, .null, .null, .null, .null]) (st' := []) (mem' := pm_up mem 46 s1.toNatClampNeg s0) hS hC rfl k.1 ?_
  replace k := k.2
  refine ex_many (pc' := 3) (ls' := [.ref 33, .int x1, .int x2, .int x3, .int (x4 + 1), .null, .null, .null, .null]) (st' := []) (mem' := pm_up mem 46 s1.toNatClampNeg s0) hS hC 2 rfl ?_
  exact k

set_option maxRecDepth 20000 in
theorem bk_X10_rentOf_71 {ro : pm_RO} {Q : Option Value → pm_M → Prop} {mem : pm_M} {x1 x2 x3 x4 x5 x6 x7 s0 : Int32} {d8 : Value} (k : (pm_inb (x5 - x7) 121 = true) ∧ (pm_Ex ro m_X10_rentOf 58 [.ref 33, .int x1, .int x2, .int x3, .int x4, .int x5, .int (if ¬ x3 = 0 then (if (s0 + (mem 46 ((x5 - x7).toNatClampNeg))) ≤ x6 then x6 else s0 + (mem 46 ((x5 - x7).toNatClampNeg)) : Int32) else (if x6 ≤ (s0 + (mem 46 ((x5 - x7).toNatClampNeg))) then x6 else s0 + (mem 46 ((x5 - x7).toNatClampNeg)) : Int32) : Int32), .int (x7 + 1), .int (s0 + (mem 46 ((x5 - x7).toNatClampNeg)))] [] mem Q)) : pm_Ex ro m_X10_rentOf 71 [.ref 33, .int x1, .int x2, .int x3, .int x4, .int x5, .int x6, .int x7, d8] [.int s0] mem Q := by
  have hS : pm_sig[m_X10_rentOf]? = some _ := rfl
  have hC : pm_cod[m_X10_rentOf]? = some _ := rfl
  refine ex_many (pc' := 80) (ls' := [.ref 33, .int x1, .int x2, .int x3, .int x4, .int x5, .int x6, .int x7, d8]) (st' := [.int (x5 - x7), .ref 46, .int s0]) (mem' := mem) hS hC 5 rfl ?_
  refine ex_grd (b := pm_inb (x5 - x7) 121) (pc' := 81) (ls' := [.ref 33, .int x1, .int x2, .int x3, .int x4, .int x5, .int x6, .int x7, d8]) (st' := [.int (mem 46 ((x5 - x7).toNatClampNeg)), .int s0]) (mem' := mem) hS hC rfl k.1 ?_
  replace k := k.2
  refine ex_many (pc' := 85) (ls' := [.ref 33, .int x1, .int x2, .int x3, .int x4, .int x5, .int x6, .int x7, .int (s0 + (mem 46 ((x5 - x7).toNatClampNeg)))]) (st' := [.int x3]) (mem' := mem) hS hC 3 rfl ?_
  have kp46 : pm_Ex ro m_X10_rentOf 112 [.ref 33, .int x1, .int x2, .int x3, .int x4, .int x5, .int x6, .int x7, .int (s0 + (mem 46 ((x5 - x7).toNatClampNeg)))] [.int (if ¬ x3 = 0 then (if (s0 + (mem 46 ((x5 - x7).toNatClampNeg))) ≤ x6 then x6 else s0 + (mem 46 ((x5 - x7).toNatClampNeg)) : Int32) else (if x6 ≤ (s0 + (mem 46 ((x5 - x7).toNatClampNeg))) then x6 else s0 + (mem 46 ((x5 - x7).toNatClampNeg)) : Int32) : Int32)] mem Q := by
    refine ex_many (pc' := 58) (ls' := [.ref 33, .int x1, .int x2, .int x3, .int x4, .int x5, .int (if ¬ x3 = 0 then (if (s0 + (mem 46 ((x5 - x7).toNatClampNeg))) ≤ x6 then x6 else s0 + (mem 46 ((x5 - x7).toNatClampNeg)) : Int32) else (if x6 ≤ (s0 + (mem 46 ((x5 - x7).toNatClampNeg))) then x6 else s0 + (mem 46 ((x5 - x7).toNatClampNeg)) : Int32) : Int32), .int (x7 + 1), .int (s0 + (mem 46 ((x5 - x7).toNatClampNeg)))]) (st' := []) (mem' := mem) hS hC 3 rfl ?_
    exact k
  refine ex_br (P := ¬ x3 = 0) (a := 98) (b := 88) (ls' := [.ref 33, .int x1, .int x2, .int x3, .int x4, .int x5, .int x6, .int x7, .int (s0 + (mem 46 ((x5 - x7).toNatClampNeg)))]) (st' := []) (mem' := mem) hS hC rfl (fun h => ?_) (fun h => ?_)
  · have kp46a : pm_Ex ro m_X10_rentOf 112 [.ref 33, .int x1, .int x2, .int x3, .int x4, .int x5, .int x6, .int x7, .int (s0 + (mem 46 ((x5 - x7).toNatClampNeg)))] [.int (if (s0 + (mem 46 ((x5 - x7).toNatClampNeg))) ≤ x6 then x6 else s0 + (mem 46 ((x5 - x7).toNatClampNeg)) : Int32)] mem Q := pm_phi1 (f := fun z0 => pm_Ex ro m_X10_rentOf 112 [.ref 33, .int x1, .int x2, .int x3, .int x4, .int x5, .int x6, .int x7, .int (s0 + (mem 46 ((x5 - x7).toNatClampNeg)))] [.int z0] mem Q) (if_pos (h)) kp46
    have kp44 : pm_Ex ro m_X10_rentOf 112 [.ref 33, .int x1, .int x2, .int x3, .int x4, .int x5, .int x6, .int x7, .int (s0 + (mem 46 ((x5 - x7).toNatClampNeg)))] [.int (if (s0 + (mem 46 ((x5 - x7).toNatClampNeg))) ≤ x6 then x6 else s0 + (mem 46 ((x5 - x7).toNatClampNeg)) : Int32)] mem Q := by
      exact kp46a
    refine ex_many (pc' := 102) (ls' := [.ref 33, .int x1, .int x2, .int x3, .int x4, .int x5, .int x6, .int x7, .int (s0 + (mem 46 ((x5 - x7).toNatClampNeg)))]) (st' := [.int x6, .int (s0 + (mem 46 ((x5 - x7).toNatClampNeg)))]) (mem' := mem) hS hC 2 rfl ?_
    refine ex_br (P := (s0 + (mem 46 ((x5 - x7).toNatClampNeg))) ≤ x6) (a := 110) (b := 105) (ls' := [.ref 33, .int x1, .int x2, .int x3, .int x4, .int x5, .int x6, .int x7, .int (s0 + (mem 46 ((x5 - x7).toNatClampNeg)))]) (st' := []) (mem' := mem) hS hC rfl (fun h => ?_) (fun h => ?_)
    · have kp44a : pm_Ex ro m_X10_rentOf 112 [.ref 33, .int x1, .int x2, .int x3, .int x4, .int x5, .int x6, .int x7, .int (s0 + (mem 46 ((x5 - x7).toNatClampNeg)))] [.int x6] mem Q := pm_phi1 (f := fun z0 => pm_Ex ro m_X10_rentOf 112 [.ref 33, .int x1, .int x2, .int x3, .int x4, .int x5, .int x6, .int x7, .int (s0 + (mem 46 ((x5 - x7).toNatClampNeg)))] [.int z0] mem Q) (if_pos (h)) kp44
      refine ex_many (pc' := 112) (ls' := [.ref 33, .int x1, .int x2, .int x3, .int x4, .int x5, .int x6, .int x7, .int (s0 + (mem 46 ((x5 - x7).toNatClampNeg)))]) (st' := [.int x6]) (mem' := mem) hS hC 1 rfl ?_
      exact kp44a
    · have kp44b : pm_Ex ro m_X10_rentOf 112 [.ref 33, .int x1, .int x2, .int x3, .int x4, .int x5, .int x6, .int x7, .int (s0 + (mem 46 ((x5 - x7).toNatClampNeg)))] [.int (s0 + (mem 46 ((x5 - x7).toNatClampNeg)))] mem Q := pm_phi1 (f := fun z0 => pm_Ex ro m_X10_rentOf 112 [.ref 33, .int x1, .int x2, .int x3, .int x4, .int x5, .int x6, .int x7, .int (s0 + (mem 46 ((x5 - x7).toNatClampNeg)))] [.int z0] mem Q) (if_neg (h)) kp44
      refine ex_many (pc' := 112) (ls' := [.ref 33, .int x1, .int x2, .int x3, .int x4, .int x5, .int x6, .int x7, .int (s0 + (mem 46 ((x5 - x7).toNatClampNeg)))]) (st' := [.int (s0 + (mem 46 ((x5 - x7).toNatClampNeg)))]) (mem' := mem) hS hC 2 rfl ?_
      exact kp44b
  · have kp46b : pm_Ex ro m_X10_rentOf 112 [.ref 33, .int x1, .int x2, .int x3, .int x4, .int x5, .int x6, .int x7, .int (s0 + (mem 46 ((x5 - x7).toNatClampNeg)))] [.int (if x6 ≤ (s0 + (mem 46 ((x5 - x7).toNatClampNeg))) then x6 else s0 + (mem 46 ((x5 - x7).toNatClampNeg)) : Int32)] mem Q := pm_phi1 (f := fun z0 => pm_Ex ro m_X10_rentOf 112 [.ref 33, .int x1, .int x2, .int x3, .int x4, .int x5, .int x6, .int x7, .int (s0 + (mem 46 ((x5 - x7).toNatClampNeg)))] [.int z0] mem Q) (if_neg (h)) kp46
    have kp45 : pm_Ex ro m_X10_rentOf 112 [.ref 33, .int x1, .int x2, .int x3, .int x4, .int x5, .int x6, .int x7, .int (s0 + (mem 46 ((x5 - x7).toNatClampNeg)))] [.int (if x6 ≤ (s0 + (mem 46 ((x5 - x7).toNatClampNeg))) then x6 else s0 + (mem 46 ((x5 - x7).toNatClampNeg)) : Int32)] mem Q := by
      exact kp46b
    refine ex_many (pc' := 92) (ls' := [.ref 33, .int x1, .int x2, .int x3, .int x4, .int x5, .int x6, .int x7, .int (s0 + (mem 46 ((x5 - x7).toNatClampNeg)))]) (st' := [.int x6, .int (s0 + (mem 46 ((x5 - x7).toNatClampNeg)))]) (mem' := mem) hS hC 2 rfl ?_
    refine ex_br (P := x6 ≤ (s0 + (mem 46 ((x5 - x7).toNatClampNeg)))) (a := 110) (b := 95) (ls' := [.ref 33, .int x1, .int x2, .int x3, .int x4, .int x5, .int x6, .int x7, .int (s0 + (mem 46 ((x5 - x7).toNatClampNeg)))]) (st' := []) (mem' := mem) hS hC rfl (fun h => ?_) (fun h => ?_)
    · have kp45a : pm_Ex ro m_X10_rentOf 112 [.ref 33, .int x1, .int x2, .int x3, .int x4, .int x5, .int x6, .int x7, .int (s0 + (mem 46 ((x5 - x7).toNatClampNeg)))] [.int x6] mem Q := pm_phi1 (f := fun z0 => pm_Ex ro m_X10_rentOf 112 [.ref 33, .int x1, .int x2, .int x3, .int x4, .int x5, .int x6, .int x7, .int (s0 + (mem 46 ((x5 - x7).toNatClampNeg)))] [.int z0] mem Q) (if_pos (h)) kp45
      refine ex_many (pc' := 112) (ls' := [.ref 33, .int x1, .int x2, .int x3, .int x4, .int x5, .int x6, .int x7, .int (s0 + (mem 46 ((x5 - x7).toNatClampNeg)))]) (st' := [.int x6]) (mem' := mem) hS hC 1 rfl ?_
      exact kp45a
    · have kp45b : pm_Ex ro m_X10_rentOf 112 [.ref 33, .int x1, .int x2, .int x3, .int x4, .int x5, .int x6, .int x7, .int (s0 + (mem 46 ((x5 - x7).toNatClampNeg)))] [.int (s0 + (mem 46 ((x5 - x7).toNatClampNeg)))] mem Q := pm_phi1 (f := fun z0 => pm_Ex ro m_X10_rentOf 112 [.ref 33, .int x1, .int x2, .int x3, .int x4, .int x5, .int x6, .int x7, .int (s0 + (mem 46 ((x5 - x7).toNatClampNeg)))] [.int z0] mem Q) (if_neg (h)) kp45
      refine ex_many (pc' := 112) (ls' := [.ref 33, .int x1, .int x2, .int x3, .int x4, .int x5, .int x6, .int x7, .int (s0 + (mem 46 ((x5 - x7).toNatClampNeg)))]) (st' := [.int (s0 + (mem 46 ((x5 - x7).toNatClampNeg)))]) (mem' := mem) hS hC 3 rfl ?_
      exact kp45b

set_option maxRecDepth 20000 in
theorem bk_X10_rent_0 {ro : pm_RO} {Q : Option Value → pm_M → Prop} {mem : pm_M} {a1 a2 a3 : Int32} (k : (0 ≤ a1 ∧ a1 ≤ 120 → (1 ≤ a2 ∧ a2 ≤ 6 → (0 ≤ a3 ∧ a3 ≤ 1 → pm_Ex ro m_X10_rentOf 0 [.ref 33, .int a1, .int a2, .int a3, .null, .null, .null, .null, .null] [] mem (fun v m => pm_Ex ro m_X10_rent 38 [.ref 33, .int a1, .int a2, .int a3] (v.toList ++ []) m Q)) ∧ (¬ (0 ≤ a3 ∧ a3 ≤ 1) → Q (some (.int (-2))) mem)) ∧ (¬ (1 ≤ a2 ∧ a2 ≤ 6) → Q (some (.int (-2))) mem)) ∧ (¬ (0 ≤ a1 ∧ a1 ≤ 120) → Q (some (.int (-2))) mem)) : pm_Ex ro m_X10_rent 0 [.ref 33, .int a1, .int a2, .int a3] [] mem Q := by
  have hS : pm_sig[m_X10_rent]? = some _ := rfl
  have hC : pm_cod[m_X10_rent]? = some _ := rfl
  refine ex_many (pc' := 6) (ls' := [.ref 33, .int a1, .int a2, .int a3]) (st' := [.long 120, .long 0, .long a1.toInt64]) (mem' := mem) hS hC 4 rfl ?_
  refine ex_call (y' := m_X10_in) (rest := []) (ent := [.long a1.toInt64, .null, .long 0, .null, .long 120, .null]) hS hC rfl rfl rfl rfl rfl rfl ?_
  refine sp_in32 (v := a1) (lo := 0) (hi := 120) (by decide) (by decide) ?_
  show pm_Ex ro m_X10_rent 9 [.ref 33, .int a1, .int a2, .int a3] [.int (zb (0 ≤ a1 ∧ a1 ≤ 120))] mem Q
  refine ex_br (P := (zb (0 ≤ a1 ∧ a1 ≤ 120)) = 0) (a := 41) (b := 12) (ls' := [.ref 33, .int a1, .int a2, .int a3]) (st' := []) (mem' := mem) hS hC rfl (fun h => ?_) (fun h => ?_)
  · replace k := k.2 (zb0 h)
    refine ex_many (pc' := 43) (ls' := [.ref 33, .int a1, .int a2, .int a3]) (st' := [.int (-2)]) (mem' := mem) hS hC 1 rfl ?_
    exact ex_ret (v := (some (.int (-2)))) hS hC rfl rfl rfl k
  · replace k := k.1 (zb1 h)
    refine ex_many (pc' := 18) (ls' := [.ref 33, .int a1, .int a2, .int a3]) (st' := [.long 6, .long 1, .long a2.toInt64]) (mem' := mem) hS hC 4 rfl ?_
    refine ex_call (y' := m_X10_in) (rest := []) (ent := [.long a2.toInt64, .null, .long 1, .null, .long 6, .null]) hS hC rfl rfl rfl rfl rfl rfl ?_
    refine sp_in32 (v := a2) (lo := 1) (hi := 6) (by decide) (by decide) ?_
    show pm_Ex ro m_X10_rent 21 [.ref 33, .int a1, .int a2, .int a3] [.int (zb (1 ≤ a2 ∧ a2 ≤ 6))] mem Q
    refine ex_br (P := (zb (1 ≤ a2 ∧ a2 ≤ 6)) = 0) (a := 41) (b := 24) (ls' := [.ref 33, .int a1, .int a2, .int a3]) (st' := []) (mem' := mem) hS hC rfl (fun h => ?_) (fun h => ?_)
    · replace k := k.2 (zb0 h)
      refine ex_many (pc' := 43) (ls' := [.ref 33, .int a1, .int a2, .int a3]) (st' := [.int (-2)]) (mem' := mem) hS hC 1 rfl ?_
      exact ex_ret (v := (some (.int (-2)))) hS hC rfl rfl rfl k
    · replace k := k.1 (zb1 h)
      refine ex_many (pc' := 25) (ls' := [.ref 33, .int a1, .int a2, .int a3]) (st' := [.int a3]) (mem' := mem) hS hC 1 rfl ?_
      refine ex_call (y' := m_X10_isTwo) (rest := []) (ent := [.int a3]) hS hC rfl rfl rfl rfl rfl rfl ?_
      refine bk_X10_isTwo_0 ?_
      show pm_Ex ro m_X10_rent 28 [.ref 33, .int a1, .int a2, .int a3] [.int (zb (0 ≤ a3 ∧ a3 ≤ 1))] mem Q
      refine ex_br (P := (zb (0 ≤ a3 ∧ a3 ≤ 1)) = 0) (a := 41) (b := 31) (ls' := [.ref 33, .int a1, .int a2, .int a3]) (st' := []) (mem' := mem) hS hC rfl (fun h => ?_) (fun h => ?_)
      · replace k := k.2 (zb0 h)
        refine ex_many (pc' := 43) (ls' := [.ref 33, .int a1, .int a2, .int a3]) (st' := [.int (-2)]) (mem' := mem) hS hC 1 rfl ?_
        exact ex_ret (v := (some (.int (-2)))) hS hC rfl rfl rfl k
      · replace k := k.1 (zb1 h)
        refine ex_many (pc' := 35) (ls' := [.ref 33, .int a1, .int a2, .int a3]) (st' := [.int a3, .int a2, .int a1, .ref 33]) (mem' := mem) hS hC 4 rfl ?_
        refine ex_call (y' := m_X10_rentOf) (rest := []) (ent := [.ref 33, .int a1, .int a2, .int a3, .null, .null, .null, .null, .null]) hS hC rfl rfl rfl rfl rfl rfl ?_
        exact k

set_option maxRecDepth 20000 in
theorem bk_X10_rent_38 {ro : pm_RO} {Q : Option Value → pm_M → Prop} {mem : pm_M} {x1 x2 x3 s0 : Int32} (k : Q (some (.int s0)) mem) : pm_Ex ro m_X10_rent 38 [.ref 33, .int x1, .int x2, .int x3] [.int s0] mem Q := by
  have hS : pm_sig[m_X10_rent]? = some _ := rfl
  have hC : pm_cod[m_X10_rent]? = some _ := rfl
  refine ex_many (pc' := 43) (ls' := [.ref 33, .int x1, .int x2, .int x3]) (st' := [.int s0]) (mem' := mem) hS hC 1 rfl ?_
  exact ex_ret (v := (some (.int s0))) hS hC rfl rfl rfl k

set_option maxRecDepth 20000 in
theorem bk_X10_worth_0 {ro : pm_RO} {Q : Option Value → pm_M → Prop} {mem : pm_M} {a1 : Int32} (k : pm_Ex ro m_X10_worth 4 [.ref 33, .int a1, .int 0, .int 0] [] mem Q) : pm_Ex ro m_X10_worth 0 [.ref 33, .int a1, .null, .null] [] mem Q := by
  have hS : pm_sig[m_X10_worth]? = some _ := rfl
  have hC : pm_cod[m_X10_worth]? = some _ := rfl
  refine ex_many (pc' := 4) (ls' := [.ref 33, .int a1, .int 0, .int 0]) (st' := []) (mem' := mem) hS hC 4 rfl ?_
  exact k

set_option maxRecDepth 20000 in
theorem bk_X10_worth_4 {ro : pm_RO} {Q : Option Value → pm_M → Prop} {mem : pm_M} {x1 x2 x3 : Int32} (k : ((mem 33 8) ≤ x3 → pm_Ex ro m_X10_paidFor 0 [.ref 33, .int x2, .null, .null, .null, .null] [] mem (fun v m => pm_Ex ro m_X10_worth 49 [.ref 33, .int x1, .int x2, .int x3] (v.toList ++ []) m Q)) ∧ (¬ ((mem 33 8) ≤ x3) → (pm_inb x3 8 = true) ∧ ((¬ (¬ ((x1 >>> ((mem 40 x3.toNatClampNeg) &&& 31)) &&& 1) = 1) → (pm_inb x3 8 = true) ∧ (pm_Ex ro m_X10_worth 4 [.ref 33, .int x1, .int (x2 + (mem 39 x3.toNatClampNeg)), .int (x3 + 1)] [] mem Q)) ∧ (¬ (¬ (¬ ((x1 >>> ((mem 40 x3.toNatClampNeg) &&& 31)) &&& 1) = 1)) → pm_Ex ro m_X10_worth 4 [.ref 33, .int x1, .int (x2 + 0), .int (x3 + 1)] [] mem Q)))) : pm_Ex ro m_X10_worth 4 [.ref 33, .int x1, .int x2, .int x3] [] mem Q := by
  have hS : pm_sig[m_X10_worth]? = some _ := rfl
  have hC : pm_cod[m_X10_worth]? = some _ := rfl
  refine ex_many (pc' := 9) (ls' := [.ref 33, .int x1, .int x2, .int x3]) (st' := [.int (mem 33 8), .int x3]) (mem' := mem) hS hC 3 rfl ?_
  refine ex_br (P := (mem 33 8) ≤ x3) (a := 44) (b := 12) (ls' := [.ref 33, .int x1, .int x2, .int x3]) (st' := []) (mem' := mem) hS hC rfl (fun h => ?_) (fun h => ?_)
  · replace k := k.1 (h)
    refine ex_many (pc' := 46) (ls' := [.ref 33, .int x1, .int x2, .int x3]) (st' := [.int x2, .ref 33]) (mem' := mem) hS hC 2 rfl ?_
    refine ex_call (y' := m_X10_paidFor) (rest := []) (ent := [.ref 33, .int x2, .null, .null, .null, .null]) hS hC rfl rfl rfl rfl rfl rfl ?_
    exact k
  · replace k := k.2 (h)
    refine ex_many (pc' := 19) (ls' := [.ref 33, .int x1, .int x2, .int x3]) (st' := [.int x3, .ref 40, .int x1, .int x2]) (mem' := mem) hS hC 5 rfl ?_
    refine ex_grd (b := pm_inb x3 8) (pc' := 20) (ls' := [.ref 33, .int x1, .int x2, .int x3]) (st' := [.int (mem 40 x3.toNatClampNeg), .int x1, .int x2]) (mem' := mem) hS hC rfl k.1 ?_
    replace k := k.2
    refine ex_call (y' := m_X10_isIn) (rest := [.int x2]) (ent := [.int x1, .int (mem 40 x3.toNatClampNeg)]) hS hC rfl rfl rfl rfl rfl rfl ?_
    refine bk_X10_isIn_0 ?_
    show pm_Ex ro m_X10_worth 23 [.ref 33, .int x1, .int x2, .int x3] [.int (zb (¬ (¬ ((x1 >>> ((mem 40 x3.toNatClampNeg) &&& 31)) &&& 1) = 1))), .int x2] mem Q
    refine ex_br (P := (zb (¬ (¬ ((x1 >>> ((mem 40 x3.toNatClampNeg) &&& 31)) &&& 1) = 1))) = 0) (a := 35) (b := 26) (ls' := [.ref 33, .int x1, .int x2, .int x3]) (st' := [.int x2]) (mem' := mem) hS hC rfl (fun h => ?_) (fun h => ?_)
    · replace k := k.2 (zb0 h)
      refine ex_many (pc' := 4) (ls' := [.ref 33, .int x1, .int (x2 + 0), .int (x3 + 1)]) (st' := []) (mem' := mem) hS hC 5 rfl ?_
      exact k
    · replace k := k.1 (zb1 h)
      refine ex_many (pc' := 31) (ls' := [.ref 33, .int x1, .int x2, .int x3]) (st' := [.int x3, .ref 39, .int x2]) (mem' := mem) hS hC 3 rfl ?_
      refine ex_grd (b := pm_inb x3 8) (pc' := 32) (ls' := [.ref 33, .int x1, .int x2, .int x3]) (st' := [.int (mem 39 x3.toNatClampNeg), .int x2]) (mem' := mem) hS hC rfl k.1 ?_
      replace k := k.2
      refine ex_many (pc' := 4) (ls' := [.ref 33, .int x1, .int (x2 + (mem 39 x3.toNatClampNeg)), .int (x3 + 1)]) (st' := []) (mem' := mem) hS hC 5 rfl ?_
      exact k

set_option maxRecDepth 20000 in
theorem bk_X10_worth_49 {ro : pm_RO} {Q : Option Value → pm_M → Prop} {mem : pm_M} {x1 x2 x3 s0 : Int32} (k : Q (some (.int s0)) mem) : pm_Ex ro m_X10_worth 49 [.ref 33, .int x1, .int x2, .int x3] [.int s0] mem Q := by
  have hS : pm_sig[m_X10_worth]? = some _ := rfl
  have hC : pm_cod[m_X10_worth]? = some _ := rfl
  exact ex_ret (v := (some (.int s0))) hS hC rfl rfl rfl k

set_option maxRecDepth 20000 in
theorem bk_X10_part_0 {ro : pm_RO} {Q : Option Value → pm_M → Prop} {mem : pm_M} {a3 : Int32} {a1 a2 : Int64} (k : (0 ≤ (lg_cmp a1 0) → pm_Ex ro m_X10_part 17 [.long a1, .null, .long a2, .null, .int a3, .long a1, .null, .long a2, .null, .null, .null] [] mem Q) ∧ (¬ (0 ≤ (lg_cmp a1 0)) → pm_Ex ro m_X10_part 17 [.long a1, .null, .long a2, .null, .int a3, .long (-a1), .null, .long a2, .null, .null, .null] [] mem Q)) : pm_Ex ro m_X10_part 0 [.long a1, .null, .long a2, .null, .int a3, .null, .null, .null, .null, .null, .null] [] mem Q := by
  have hS : pm_sig[m_X10_part]? = some _ := rfl
  have hC : pm_cod[m_X10_part]? = some _ := rfl
  refine ex_many (pc' := 3) (ls' := [.long a1, .null, .long a2, .null, .int a3, .null, .null, .null, .null, .null, .null]) (st' := [.int (lg_cmp a1 0)]) (mem' := mem) hS hC 3 rfl ?_
  refine ex_br (P := 0 ≤ (lg_cmp a1 0)) (a := 11) (b := 6) (ls' := [.long a1, .null, .long a2, .null, .int a3, .null, .null, .null, .null, .null, .null]) (st' := []) (mem' := mem) hS hC rfl (fun h => ?_) (fun h => ?_)
  · replace k := k.1 (h)
    refine ex_many (pc' := 17) (ls' := [.long a1, .null, .long a2, .null, .int a3, .long a1, .null, .long a2, .null, .null, .null]) (st' := []) (mem' := mem) hS hC 4 rfl ?_
    exact k
  · replace k := k.2 (h)
    refine ex_many (pc' := 17) (ls' := [.long a1, .null, .long a2, .null, .int a3, .long (-a1), .null, .long a2, .null, .null, .null]) (st' := []) (mem' := mem) hS hC 6 rfl ?_
    exact k

set_option maxRecDepth 20000 in
theorem bk_X10_part_17 {ro : pm_RO} {Q : Option Value → pm_M → Prop} {mem : pm_M} {x4 : Int32} {x0 x2 x5 x7 : Int64} {d9 : Value} (k : ((lg_cmp x7 0) = 0 → (¬ x4 = 0 → (¬ x5 = 0) ∧ (Q (some (.long (x2 / x5))) mem)) ∧ (¬ (¬ x4 = 0) → (¬ x5 = 0) ∧ (Q (some (.long (x0 / x5))) mem))) ∧ (¬ ((lg_cmp x7 0) = 0) → (¬ x7 = 0) ∧ (pm_Ex ro m_X10_part 17 [.long x0, .null, .long x2, .null, .int x4, .long x7, .null, .long (x5 - x5 / x7 * x7), .null, .long (x5 - x5 / x7 * x7), .null] [] mem Q))) : pm_Ex ro m_X10_part 17 [.long x0, .null, .long x2, .null, .int x4, .long x5, .null, .long x7, .null, d9, .null] [] mem Q := by
  have hS : pm_sig[m_X10_part]? = some _ := rfl
  have hC : pm_cod[m_X10_part]? = some _ := rfl
  refine ex_many (pc' := 21) (ls' := [.long x0, .null, .long x2, .null, .int x4, .long x5, .null, .long x7, .null, d9, .null]) (st' := [.int (lg_cmp x7 0)]) (mem' := mem) hS hC 3 rfl ?_
  refine ex_br (P := (lg_cmp x7 0) = 0) (a := 42) (b := 24) (ls' := [.long x0, .null, .long x2, .null, .int x4, .long x5, .null, .long x7, .null, d9, .null]) (st' := []) (mem' := mem) hS hC rfl (fun h => ?_) (fun h => ?_)
  · replace k := k.1 (h)
    refine ex_many (pc' := 44) (ls' := [.long x0, .null, .long x2, .null, .int x4, .long x5, .null, .long x7, .null, d9, .null]) (st' := [.int x4]) (mem' := mem) hS hC 1 rfl ?_
    refine ex_br (P := ¬ x4 = 0) (a := 51) (b := 47) (ls' := [.long x0, .null, .long x2, .null, .int x4, .long x5, .null, .long x7, .null, d9, .null]) (st' := []) (mem' := mem) hS hC rfl (fun h => ?_) (fun h => ?_)
    · replace k := k.1 (h)
      refine ex_many (pc' := 54) (ls' := [.long x0, .null, .long x2, .null, .int x4, .long x5, .null, .long x7, .null, d9, .null]) (st' := [.long x5, .long x2]) (mem' := mem) hS hC 2 rfl ?_
      refine ex_grd (b := !(decide (x5 = 0))) (pc' := 55) (ls' := [.long x0, .null, .long x2, .null, .int x4, .long x5, .null, .long x7, .null, d9, .null]) (st' := [.long (x2 / x5)]) (mem' := mem) hS hC rfl (pm_nzl k.1) ?_
      replace k := k.2
      exact ex_ret (v := (some (.long (x2 / x5)))) hS hC rfl rfl rfl k
    · replace k := k.2 (h)
      refine ex_many (pc' := 54) (ls' := [.long x0, .null, .long x2, .null, .int x4, .long x5, .null, .long x7, .null, d9, .null]) (st' := [.long x5, .long x0]) (mem' := mem) hS hC 3 rfl ?_
      refine ex_grd (b := !(decide (x5 = 0))) (pc' := 55) (ls' := [.long x0, .null, .long x2, .null, .int x4, .long x5, .null, .long x7, .null, d9, .null]) (st' := [.long (x0 / x5)]) (mem' := mem) hS hC rfl (pm_nzl k.1) ?_
      replace k := k.2
      exact ex_ret (v := (some (.long (x0 / x5)))) hS hC rfl rfl rfl k
  · replace k := k.2 (h)
    refine ex_many (pc' := 28) (ls' := [.long x0, .null, .long x2, .null, .int x4, .long x5, .null, .long x7, .null, d9, .null]) (st' := [.long x7, .long x5]) (mem' := mem) hS hC 2 rfl ?_
    refine ex_grd (b := !(decide (x7 = 0))) (pc' := 29) (ls' := [.long x0, .null, .long x2, .null, .int x4, .long x5, .null, .long x7, .null, d9, .null]) (st' := [.long (x5 - x5 / x7 * x7)]) (mem' := mem) hS hC rfl (pm_nzl k.1) ?_
    replace k := k.2
    refine ex_many (pc' := 17) (ls' := [.long x0, .null, .long x2, .null, .int x4, .long x7, .null, .long (x5 - x5 / x7 * x7), .null, .long (x5 - x5 / x7 * x7), .null]) (st' := []) (mem' := mem) hS hC 6 rfl ?_
    exact k

set_option maxRecDepth 20000 in
theorem bk_X10_shareOf_0 {ro : pm_RO} {Q : Option Value → pm_M → Prop} {mem : pm_M} {a1 a2 : Int32} (k : pm_Ex ro m_X10_shareOf 5 [.ref 33, .int a1, .int a2, .long 0, .null, .int 0, .null, .null] [] mem Q) : pm_Ex ro m_X10_shareOf 0 [.ref 33, .int a1, .int a2, .null, .null, .null, .null, .null] [] mem Q := by
  have hS : pm_sig[m_X10_shareOf]? = some _ := rfl
  have hC : pm_cod[m_X10_shareOf]? = some _ := rfl
  refine ex_many (pc' := 5) (ls' := [.ref 33, .int a1, .int a2, .long 0, .null, .int 0, .null, .null]) (st' := []) (mem' := mem) hS hC 4 rfl ?_
  exact k

set_option maxRecDepth 20000 in
theorem bk_X10_shareOf_5 {ro : pm_RO} {Q : Option Value → pm_M → Prop} {mem : pm_M} {x1 x2 x5 : Int32} {x3 : Int64} {d6 d7 : Value} (k : (16 ≤ x5 → pm_Ex ro m_X10_part 0 [.long x3, .null, .long 24, .null, .int x2, .null, .null, .null, .null, .null, .null] [] mem (fun v m => pm_Ex ro m_X10_shareOf 86 [.ref 33, .int x1, .int x2, .long x3, .null, .int x5, d6, d7] (v.toList ++ []) m Q)) ∧ (¬ (16 ≤ x5) → (¬ (¬ ((x5 >>> (x1 &&& 31)) &&& 1) = 1) → pm_Ex ro m_X10_shareOf 5 [.ref 33, .int x1, .int x2, .long x3, .null, .int (x5 + 1), d6, d7] [] mem Q) ∧ (¬ (¬ (¬ ((x5 >>> (x1 &&& 31)) &&& 1) = 1)) → pm_Ex ro m_X10_ones 0 [.int x5, .null, .null] [] mem (fun v m => pm_Ex ro m_X10_shareOf 26 [.ref 33, .int x1, .int x2, .long x3, .null, .int x5, d6, d7] (v.toList ++ []) m Q)))) : pm_Ex ro m_X10_shareOf 5 [.ref 33, .int x1, .int x2, .long x3, .null, .int x5, d6, d7] [] mem Q := by
  have hS : pm_sig[m_X10_shareOf]? = some _ := rfl
  have hC : pm_cod[m_X10_shareOf]? = some _ := rfl
  refine ex_many (pc' := 9) (ls' := [.ref 33, .int x1, .int x2, .long x3, .null, .int x5, d6, d7]) (st' := [.int 16, .int x5]) (mem' := mem) hS hC 2 rfl ?_
  refine ex_br (P := 16 ≤ x5) (a := 78) (b := 12) (ls' := [.ref 33, .int x1, .int x2, .long x3, .null, .int x5, d6, d7]) (st' := []) (mem' := mem) hS hC rfl (fun h => ?_) (fun h => ?_)
  · replace k := k.1 (h)
    refine ex_many (pc' := 83) (ls' := [.ref 33, .int x1, .int x2, .long x3, .null, .int x5, d6, d7]) (st' := [.int x2, .long 24, .long x3]) (mem' := mem) hS hC 3 rfl ?_
    refine ex_call (y' := m_X10_part) (rest := []) (ent := [.long x3, .null, .long 24, .null, .int x2, .null, .null, .null, .null, .null, .null]) hS hC rfl rfl rfl rfl rfl rfl ?_
    exact k
  · replace k := k.2 (h)
    refine ex_many (pc' := 15) (ls' := [.ref 33, .int x1, .int x2, .long x3, .null, .int x5, d6, d7]) (st' := [.int x1, .int x5]) (mem' := mem) hS hC 2 rfl ?_
    refine ex_call (y' := m_X10_isIn) (rest := []) (ent := [.int x5, .int x1]) hS hC rfl rfl rfl rfl rfl rfl ?_
    refine bk_X10_isIn_0 ?_
    show pm_Ex ro m_X10_shareOf 18 [.ref 33, .int x1, .int x2, .long x3, .null, .int x5, d6, d7] [.int (zb (¬ (¬ ((x5 >>> (x1 &&& 31)) &&& 1) = 1)))] mem Q
    refine ex_br (P := ¬ (zb (¬ (¬ ((x5 >>> (x1 &&& 31)) &&& 1) = 1))) = 0) (a := 72) (b := 21) (ls' := [.ref 33, .int x1, .int x2, .long x3, .null, .int x5, d6, d7]) (st' := []) (mem' := mem) hS hC rfl (fun h => ?_) (fun h => ?_)
    · replace k := k.1 (zb1 h)
      refine ex_many (pc' := 5) (ls' := [.ref 33, .int x1, .int x2, .long x3, .null, .int (x5 + 1), d6, d7]) (st' := []) (mem' := mem) hS hC 2 rfl ?_
      exact k
    · replace k := k.2 (zb0n h)
      refine ex_many (pc' := 23) (ls' := [.ref 33, .int x1, .int x2, .long x3, .null, .int x5, d6, d7]) (st' := [.int x5]) (mem' := mem) hS hC 1 rfl ?_
      refine ex_call (y' := m_X10_ones) (rest := []) (ent := [.int x5, .null, .null]) hS hC rfl rfl rfl rfl rfl rfl ?_
      exact k

set_option maxRecDepth 20000 in
theorem bk_X10_shareOf_26 {ro : pm_RO} {Q : Option Value → pm_M → Prop} {mem : pm_M} {x1 x2 x5 s0 : Int32} {x3 : Int64} {d6 d7 : Value} (k : pm_Ex ro m_X10_worth 0 [.ref 33, .int (x5 ||| ((1 : Int32) <<< (x1 &&& 31))), .null, .null] [] mem (fun v m => pm_Ex ro m_X10_shareOf 61 [.ref 33, .int x1, .int x2, .long x3, .null, .int x5, .int s0, .int (if s0 = 0 then 6 else (if ¬ s0 = 3 then 2 else 6 : Int32) : Int32)] (v.toList ++ [.long ((if s0 = 0 then 6 else (if ¬ s0 = 3 then 2 else 6 : Int32) : Int32).toInt64), .long x3]) m Q)) : pm_Ex ro m_X10_shareOf 26 [.ref 33, .int x1, .int x2, .long x3, .null, .int x5, d6, d7] [.int s0] mem Q := by
  have hS : pm_sig[m_X10_shareOf]? = some _ := rfl
  have hC : pm_cod[m_X10_shareOf]? = some _ := rfl
  refine ex_many (pc' := 30) (ls' := [.ref 33, .int x1, .int x2, .long x3, .null, .int x5, .int s0, d7]) (st' := [.int s0]) (mem' := mem) hS hC 2 rfl ?_
  have kp48 : pm_Ex ro m_X10_shareOf 45 [.ref 33, .int x1, .int x2, .long x3, .null, .int x5, .int s0, d7] [.int (if s0 = 0 then 6 else (if ¬ s0 = 3 then 2 else 6 : Int32) : Int32)] mem Q := by
    refine ex_many (pc' := 58) (ls' := [.ref 33, .int x1, .int x2, .long x3, .null, .int x5, .int s0, .int (if s0 = 0 then 6 else (if ¬ s0 = 3 then 2 else 6 : Int32) : Int32)]) (st' := [.int (x5 ||| ((1 : Int32) <<< (x1 &&& 31))), .ref 33, .long ((if s0 = 0 then 6 else (if ¬ s0 = 3 then 2 else 6 : Int32) : Int32).toInt64), .long x3]) (mem' := mem) hS hC 10 rfl ?_
    refine ex_call (y' := m_X10_worth) (rest := [.long ((if s0 = 0 then 6 else (if ¬ s0 = 3 then 2 else 6 : Int32) : Int32).toInt64), .long x3]) (ent := [.ref 33, .int (x5 ||| ((1 : Int32) <<< (x1 &&& 31))), .null, .null]) hS hC rfl rfl rfl rfl rfl rfl ?_
    exact k
  refine ex_br (P := s0 = 0) (a := 39) (b := 33) (ls' := [.ref 33, .int x1, .int x2, .long x3, .null, .int x5, .int s0, d7]) (st' := []) (mem' := mem) hS hC rfl (fun h => ?_) (fun h => ?_)
  · have kp48a : pm_Ex ro m_X10_shareOf 45 [.ref 33, .int x1, .int x2, .long x3, .null, .int x5, .int s0, d7] [.int 6] mem Q := pm_phi1 (f := fun z0 => pm_Ex ro m_X10_shareOf 45 [.ref 33, .int x1, .int x2, .long x3, .null, .int x5, .int s0, d7] [.int z0] mem Q) (if_pos (h)) kp48
    refine ex_many (pc' := 45) (ls' := [.ref 33, .int x1, .int x2, .long x3, .null, .int x5, .int s0, d7]) (st' := [.int 6]) (mem' := mem) hS hC 2 rfl ?_
    exact kp48a
  · have kp48b : pm_Ex ro m_X10_shareOf 45 [.ref 33, .int x1, .int x2, .long x3, .null, .int x5, .int s0, d7] [.int (if ¬ s0 = 3 then 2 else 6 : Int32)] mem Q := pm_phi1 (f := fun z0 => pm_Ex ro m_X10_shareOf 45 [.ref 33, .int x1, .int x2, .long x3, .null, .int x5, .int s0, d7] [.int z0] mem Q) (if_neg (h)) kp48
    have kp47 : pm_Ex ro m_X10_shareOf 45 [.ref 33, .int x1, .int x2, .long x3, .null, .int x5, .int s0, d7] [.int (if ¬ s0 = 3 then 2 else 6 : Int32)] mem Q := by
      exact kp48b
    refine ex_many (pc' := 36) (ls' := [.ref 33, .int x1, .int x2, .long x3, .null, .int x5, .int s0, d7]) (st' := [.int 3, .int s0]) (mem' := mem) hS hC 2 rfl ?_
    refine ex_br (P := ¬ s0 = 3) (a := 44) (b := 39) (ls' := [.ref 33, .int x1, .int x2, .long x3, .null, .int x5, .int s0, d7]) (st' := []) (mem' := mem) hS hC rfl (fun h => ?_) (fun h => ?_)
    · have kp47a : pm_Ex ro m_X10_shareOf 45 [.ref 33, .int x1, .int x2, .long x3, .null, .int x5, .int s0, d7] [.int 2] mem Q := pm_phi1 (f := fun z0 => pm_Ex ro m_X10_shareOf 45 [.ref 33, .int x1, .int x2, .long x3, .null, .int x5, .int s0, d7] [.int z0] mem Q) (if_pos (h)) kp47
      refine ex_many (pc' := 45) (ls' := [.ref 33, .int x1, .int x2, .long x3, .null, .int x5, .int s0, d7]) (st' := [.int 2]) (mem' := mem) hS hC 1 rfl ?_
      exact kp47a
    · have kp47b : pm_Ex ro m_X10_shareOf 45 [.ref 33, .int x1, .int x2, .long x3, .null, .int x5, .int s0, d7] [.int 6] mem Q := pm_phi1 (f := fun z0 => pm_Ex ro m_X10_shareOf 45 [.ref 33, .int x1, .int x2, .long x3, .null, .int x5, .int s0, d7] [.int z0] mem Q) (if_neg (h)) kp47
      refine ex_many (pc' := 45) (ls' := [.ref 33, .int x1, .int x2, .long x3, .null, .int x5, .int s0, d7]) (st' := [.int 6]) (mem' := mem) hS hC 2 rfl ?_
      exact kp47b

set_option maxRecDepth 20000 in
theorem bk_X10_shareOf_86 {ro : pm_RO} {Q : Option Value → pm_M → Prop} {mem : pm_M} {x1 x2 x5 : Int32} {x3 s0 : Int64} {d6 d7 : Value} (k : Q (some (.long s0)) mem) : pm_Ex ro m_X10_shareOf 86 [.ref 33, .int x1, .int x2, .long x3, .null, .int x5, d6, d7] [.long s0] mem Q := by
  have hS : pm_sig[m_X10_shareOf]? = some _ := rfl
  have hC : pm_cod[m_X10_shareOf]? = some _ := rfl
  exact ex_ret (v := (some (.long s0))) hS hC rfl rfl rfl k

set_option maxRecDepth 20000 in
theorem bk_X10_shareOf_61 {ro : pm_RO} {Q : Option Value → pm_M → Prop} {mem : pm_M} {x1 x2 x5 x6 x7 s0 : Int32} {x3 s1 s2 : Int64} (k : pm_Ex ro m_X10_worth 0 [.ref 33, .int x5, .null, .null] [] mem (fun v m => pm_Ex ro m_X10_shareOf 67 [.ref 33, .int x1, .int x2, .long x3, .null, .int x5, .int x6, .int x7] (v.toList ++ [.int s0, .long s1, .long s2]) m Q)) : pm_Ex ro m_X10_shareOf 61 [.ref 33, .int x1, .int x2, .long x3, .null, .int x5, .int x6, .int x7] [.int s0, .long s1, .long s2] mem Q := by
  have hS : pm_sig[m_X10_shareOf]? = some _ := rfl
  have hC : pm_cod[m_X10_shareOf]? = some _ := rfl
  refine ex_many (pc' := 64) (ls' := [.ref 33, .int x1, .int x2, .long x3, .null, .int x5, .int x6, .int x7]) (st' := [.int x5, .ref 33, .int s0, .long s1, .long s2]) (mem' := mem) hS hC 2 rfl ?_
  refine ex_call (y' := m_X10_worth) (rest := [.int s0, .long s1, .long s2]) (ent := [.ref 33, .int x5, .null, .null]) hS hC rfl rfl rfl rfl rfl rfl ?_
  exact k

set_option maxRecDepth 20000 in
theorem bk_X10_shareOf_67 {ro : pm_RO} {Q : Option Value → pm_M → Prop} {mem : pm_M} {x1 x2 x5 x6 x7 s0 s1 : Int32} {x3 s2 s3 : Int64} (k : pm_Ex ro m_X10_shareOf 5 [.ref 33, .int x1, .int x2, .long (s3 + (s2 * ((s1 - s0).toInt64))), .null, .int (x5 + 1), .int x6, .int x7] [] mem Q) : pm_Ex ro m_X10_shareOf 67 [.ref 33, .int x1, .int x2, .long x3, .null, .int x5, .int x6, .int x7] [.int s0, .int s1, .long s2, .long s3] mem Q := by
  have hS : pm_sig[m_X10_shareOf]? = some _ := rfl
  have hC : pm_cod[m_X10_shareOf]? = some _ := rfl
  refine ex_many (pc' := 5) (ls' := [.ref 33, .int x1, .int x2, .long (s3 + (s2 * ((s1 - s0).toInt64))), .null, .int (x5 + 1), .int x6, .int x7]) (st' := []) (mem' := mem) hS hC 7 rfl ?_
  exact k

set_option maxRecDepth 20000 in
theorem bk_X10_share_0 {ro : pm_RO} {Q : Option Value → pm_M → Prop} {mem : pm_M} {a1 a2 : Int32} (k : pm_Ex ro m_X10_reads 0 [.ref 33, .null] [] mem (fun v m => pm_Ex ro m_X10_share 4 [.ref 33, .int a1, .int a2] (v.toList ++ []) m Q)) : pm_Ex ro m_X10_share 0 [.ref 33, .int a1, .int a2] [] mem Q := by
  have hS : pm_sig[m_X10_share]? = some _ := rfl
  have hC : pm_cod[m_X10_share]? = some _ := rfl
  refine ex_many (pc' := 1) (ls' := [.ref 33, .int a1, .int a2]) (st' := [.ref 33]) (mem' := mem) hS hC 1 rfl ?_
  refine ex_call (y' := m_X10_reads) (rest := []) (ent := [.ref 33, .null]) hS hC rfl rfl rfl rfl rfl rfl ?_
  exact k

set_option maxRecDepth 20000 in
theorem bk_X10_share_4 {ro : pm_RO} {Q : Option Value → pm_M → Prop} {mem : pm_M} {x1 x2 s0 : Int32} (k : (0 ≤ x1 ∧ x1 ≤ 3 → (0 ≤ x2 ∧ x2 ≤ 1 → pm_Ex ro m_X10_shareOf 0 [.ref 33, .int x1, .int x2, .null, .null, .null, .null, .null] [] mem (fun v m => pm_Ex ro m_X10_share 25 [.ref 33, .int x1, .int x2] (v.toList ++ []) m Q)) ∧ (¬ (0 ≤ x2 ∧ x2 ≤ 1) → Q (some (.long ((-9223372036854775808) - (-2 : Int32).toInt64))) mem)) ∧ (¬ (0 ≤ x1 ∧ x1 ≤ 3) → Q (some (.long ((-9223372036854775808) - (-2 : Int32).toInt64))) mem)) : pm_Ex ro m_X10_share 4 [.ref 33, .int x1, .int x2] [.int s0] mem Q := by
  have hS : pm_sig[m_X10_share]? = some _ := rfl
  have hC : pm_cod[m_X10_share]? = some _ := rfl
  refine ex_many (pc' := 6) (ls' := [.ref 33, .int x1, .int x2]) (st' := [.int x1]) (mem' := mem) hS hC 2 rfl ?_
  refine ex_call (y' := m_X10_isPartner) (rest := []) (ent := [.int x1]) hS hC rfl rfl rfl rfl rfl rfl ?_
  refine bk_X10_isPartner_0 ?_
  show pm_Ex ro m_X10_share 9 [.ref 33, .int x1, .int x2] [.int (zb (0 ≤ x1 ∧ x1 ≤ 3))] mem Q
  refine ex_br (P := (zb (0 ≤ x1 ∧ x1 ≤ 3)) = 0) (a := 28) (b := 12) (ls' := [.ref 33, .int x1, .int x2]) (st' := []) (mem' := mem) hS hC rfl (fun h => ?_) (fun h => ?_)
  · replace k := k.2 (zb0 h)
    refine ex_many (pc' := 30) (ls' := [.ref 33, .int x1, .int x2]) (st' := [.int (-2)]) (mem' := mem) hS hC 1 rfl ?_
    refine ex_call (y' := m_X10_no) (rest := []) (ent := [.int (-2)]) hS hC rfl rfl rfl rfl rfl rfl ?_
    refine bk_X10_no_0 ?_
    show pm_Ex ro m_X10_share 33 [.ref 33, .int x1, .int x2] [.long ((-9223372036854775808) - (-2 : Int32).toInt64)] mem Q
    exact ex_ret (v := (some (.long ((-9223372036854775808) - (-2 : Int32).toInt64)))) hS hC rfl rfl rfl k
  · replace k := k.1 (zb1 h)
    refine ex_many (pc' := 13) (ls' := [.ref 33, .int x1, .int x2]) (st' := [.int x2]) (mem' := mem) hS hC 1 rfl ?_
    refine ex_call (y' := m_X10_isTwo) (rest := []) (ent := [.int x2]) hS hC rfl rfl rfl rfl rfl rfl ?_
    refine bk_X10_isTwo_0 ?_
    show pm_Ex ro m_X10_share 16 [.ref 33, .int x1, .int x2] [.int (zb (0 ≤ x2 ∧ x2 ≤ 1))] mem Q
    refine ex_br (P := (zb (0 ≤ x2 ∧ x2 ≤ 1)) = 0) (a := 28) (b := 19) (ls' := [.ref 33, .int x1, .int x2]) (st' := []) (mem' := mem) hS hC rfl (fun h => ?_) (fun h => ?_)
    · replace k := k.2 (zb0 h)
      refine ex_many (pc' := 30) (ls' := [.ref 33, .int x1, .int x2]) (st' := [.int (-2)]) (mem' := mem) hS hC 1 rfl ?_
      refine ex_call (y' := m_X10_no) (rest := []) (ent := [.int (-2)]) hS hC rfl rfl rfl rfl rfl rfl ?_
      refine bk_X10_no_0 ?_
      show pm_Ex ro m_X10_share 33 [.ref 33, .int x1, .int x2] [.long ((-9223372036854775808) - (-2 : Int32).toInt64)] mem Q
      exact ex_ret (v := (some (.long ((-9223372036854775808) - (-2 : Int32).toInt64)))) hS hC rfl rfl rfl k
    · replace k := k.1 (zb1 h)
      refine ex_many (pc' := 22) (ls' := [.ref 33, .int x1, .int x2]) (st' := [.int x2, .int x1, .ref 33]) (mem' := mem) hS hC 3 rfl ?_
      refine ex_call (y' := m_X10_shareOf) (rest := []) (ent := [.ref 33, .int x1, .int x2, .null, .null, .null, .null, .null]) hS hC rfl rfl rfl rfl rfl rfl ?_
      exact k

set_option maxRecDepth 20000 in
theorem bk_X10_share_25 {ro : pm_RO} {Q : Option Value → pm_M → Prop} {mem : pm_M} {x1 x2 : Int32} {s0 : Int64} (k : Q (some (.long s0)) mem) : pm_Ex ro m_X10_share 25 [.ref 33, .int x1, .int x2] [.long s0] mem Q := by
  have hS : pm_sig[m_X10_share]? = some _ := rfl
  have hC : pm_cod[m_X10_share]? = some _ := rfl
  refine ex_many (pc' := 33) (ls' := [.ref 33, .int x1, .int x2]) (st' := [.long s0]) (mem' := mem) hS hC 1 rfl ?_
  exact ex_ret (v := (some (.long s0))) hS hC rfl rfl rfl k

set_option maxRecDepth 20000 in
theorem bk_X10_fits_0 {ro : pm_RO} {Q : Option Value → pm_M → Prop} {mem : pm_M} {a1 a2 : Int32} (k : (pm_inb a2 4 = true) ∧ (pm_Ex ro m_X10_fits 12 [.ref 33, .int a1, .int a2, .int a1, .int ((mem 35 a2.toNatClampNeg) - 1), .null] [] mem Q)) : pm_Ex ro m_X10_fits 0 [.ref 33, .int a1, .int a2, .null, .null, .null] [] mem Q := by
  have hS : pm_sig[m_X10_fits]? = some _ := rfl
  have hC : pm_cod[m_X10_fits]? = some _ := rfl
  refine ex_many (pc' := 7) (ls' := [.ref 33, .int a1, .int a2, .int a1, .null, .null]) (st' := [.int a2, .ref 35]) (mem' := mem) hS hC 5 rfl ?_
  refine ex_grd (b := pm_inb a2 4) (pc' := 8) (ls' := [.ref 33, .int a1, .int a2, .int a1, .null, .null]) (st' := [.int (mem 35 a2.toNatClampNeg)]) (mem' := mem) hS hC rfl k.1 ?_
  replace k := k.2
  refine ex_many (pc' := 12) (ls' := [.ref 33, .int a1, .int a2, .int a1, .int ((mem 35 a2.toNatClampNeg) - 1), .null]) (st' := []) (mem' := mem) hS hC 3 rfl ?_
  exact k

set_option maxRecDepth 20000 in
theorem bk_X10_fits_12 {ro : pm_RO} {Q : Option Value → pm_M → Prop} {mem : pm_M} {x1 x2 x3 x4 : Int32} {d5 : Value} (k : (x4 < 0 → Q (some (.int (zb (¬ (¬ x3 = 0))))) mem) ∧ (¬ (x4 < 0) → (pm_inb ((60 * x2) + x4) 240 = true) ∧ ((x3 = 0 → Q (some (.int 0)) mem) ∧ (¬ (x3 = 0) → ((mem 36 (((60 * x2) + x4).toNatClampNeg)) = (-1) → (¬ (mem 41 0) = 0) ∧ (pm_Ex ro m_X10_fits 12 [.ref 33, .int x1, .int x2, .int (x3 / (mem 41 0)), .int (x4 + (-1)), .int (mem 36 (((60 * x2) + x4).toNatClampNeg))] [] mem Q)) ∧ (¬ ((mem 36 (((60 * x2) + x4).toNatClampNeg)) = (-1)) → (¬ (mem 41 0) = 0) ∧ (((mem 36 (((60 * x2) + x4).toNatClampNeg)) = (x3 - x3 / (mem 41 0) * (mem 41 0)) → (¬ (mem 41 0) = 0) ∧ (pm_Ex ro m_X10_fits 12 [.ref 33, .int x1, .int x2, .int (x3 / (mem 41 0)), .int (x4 + (-1)), .int (mem 36 (((60 * x2) + x4).toNatClampNeg))] [] mem Q)) ∧ (¬ ((mem 36 (((60 * x2) + x4).toNatClampNeg)) = (x3 - x3 / (mem 41 0) * (mem 41 0))) → Q (some (.int 0)) mem))))))) : pm_Ex ro m_X10_fits 12 [.ref 33, .int x1, .int x2, .int x3, .int x4, d5] [] mem Q := by
  have hS : pm_sig[m_X10_fits]? = some _ := rfl
  have hC : pm_cod[m_X10_fits]? = some _ := rfl
  refine ex_many (pc' := 14) (ls' := [.ref 33, .int x1, .int x2, .int x3, .int x4, d5]) (st' := [.int x4]) (mem' := mem) hS hC 1 rfl ?_
  refine ex_br (P := x4 < 0) (a := 71) (b := 17) (ls' := [.ref 33, .int x1, .int x2, .int x3, .int x4, d5]) (st' := []) (mem' := mem) hS hC rfl (fun h => ?_) (fun h => ?_)
  · replace k := k.1 (h)
    refine ex_many (pc' := 72) (ls' := [.ref 33, .int x1, .int x2, .int x3, .int x4, d5]) (st' := [.int x3]) (mem' := mem) hS hC 1 rfl ?_
    have kp49 : pm_Ex ro m_X10_fits 80 [.ref 33, .int x1, .int x2, .int x3, .int x4, d5] [.int (zb (¬ (¬ x3 = 0)))] mem Q := by
      exact ex_retz hS hC rfl rfl rfl (zb_01 _) k
    refine ex_br (P := ¬ x3 = 0) (a := 79) (b := 75) (ls' := [.ref 33, .int x1, .int x2, .int x3, .int x4, d5]) (st' := []) (mem' := mem) hS hC rfl (fun h => ?_) (fun h => ?_)
    · have kp49a : pm_Ex ro m_X10_fits 80 [.ref 33, .int x1, .int x2, .int x3, .int x4, d5] [.int 0] mem Q := pm_phi1 (f := fun z0 => pm_Ex ro m_X10_fits 80 [.ref 33, .int x1, .int x2, .int x3, .int x4, d5] [.int z0] mem Q) (zb_npos (h)) kp49
      refine ex_many (pc' := 80) (ls' := [.ref 33, .int x1, .int x2, .int x3, .int x4, d5]) (st' := [.int 0]) (mem' := mem) hS hC 1 rfl ?_
      exact kp49a
    · have kp49b : pm_Ex ro m_X10_fits 80 [.ref 33, .int x1, .int x2, .int x3, .int x4, d5] [.int 1] mem Q := pm_phi1 (f := fun z0 => pm_Ex ro m_X10_fits 80 [.ref 33, .int x1, .int x2, .int x3, .int x4, d5] [.int z0] mem Q) (zb_nneg (h)) kp49
      refine ex_many (pc' := 80) (ls' := [.ref 33, .int x1, .int x2, .int x3, .int x4, d5]) (st' := [.int 1]) (mem' := mem) hS hC 2 rfl ?_
      exact kp49b
  · replace k := k.2 (h)
    refine ex_many (pc' := 28) (ls' := [.ref 33, .int x1, .int x2, .int x3, .int x4, d5]) (st' := [.int ((60 * x2) + x4), .ref 36]) (mem' := mem) hS hC 7 rfl ?_
    refine ex_grd (b := pm_inb ((60 * x2) + x4) 240) (pc' := 29) (ls' := [.ref 33, .int x1, .int x2, .int x3, .int x4, d5]) (st' := [.int (mem 36 (((60 * x2) + x4).toNatClampNeg))]) (mem' := mem) hS hC rfl k.1 ?_
    replace k := k.2
    refine ex_many (pc' := 32) (ls' := [.ref 33, .int x1, .int x2, .int x3, .int x4, .int (mem 36 (((60 * x2) + x4).toNatClampNeg))]) (st' := [.int x3]) (mem' := mem) hS hC 2 rfl ?_
    refine ex_br (P := x3 = 0) (a := 54) (b := 35) (ls' := [.ref 33, .int x1, .int x2, .int x3, .int x4, .int (mem 36 (((60 * x2) + x4).toNatClampNeg))]) (st' := []) (mem' := mem) hS hC rfl (fun h => ?_) (fun h => ?_)
    · replace k := k.1 (h)
      refine ex_many (pc' := 55) (ls' := [.ref 33, .int x1, .int x2, .int x3, .int x4, .int (mem 36 (((60 * x2) + x4).toNatClampNeg))]) (st' := [.int 0]) (mem' := mem) hS hC 1 rfl ?_
      exact ex_ret (v := (some (.int 0))) hS hC rfl rfl rfl k
    · replace k := k.2 (h)
      refine ex_many (pc' := 38) (ls' := [.ref 33, .int x1, .int x2, .int x3, .int x4, .int (mem 36 (((60 * x2) + x4).toNatClampNeg))]) (st' := [.int (-1), .int (mem 36 (((60 * x2) + x4).toNatClampNeg))]) (mem' := mem) hS hC 2 rfl ?_
      refine ex_br (P := (mem 36 (((60 * x2) + x4).toNatClampNeg)) = (-1)) (a := 56) (b := 41) (ls' := [.ref 33, .int x1, .int x2, .int x3, .int x4, .int (mem 36 (((60 * x2) + x4).toNatClampNeg))]) (st' := []) (mem' := mem) hS hC rfl (fun h => ?_) (fun h => ?_)
      · replace k := k.1 (h)
        refine ex_many (pc' := 63) (ls' := [.ref 33, .int x1, .int x2, .int x3, .int x4, .int (mem 36 (((60 * x2) + x4).toNatClampNeg))]) (st' := [.int (mem 41 0), .int x3]) (mem' := mem) hS hC 5 rfl ?_
        refine ex_grd (b := !(decide ((mem 41 0) = 0))) (pc' := 64) (ls' := [.ref 33, .int x1, .int x2, .int x3, .int x4, .int (mem 36 (((60 * x2) + x4).toNatClampNeg))]) (st' := [.int (x3 / (mem 41 0))]) (mem' := mem) hS hC rfl (pm_nz k.1) ?_
        replace k := k.2
        refine ex_many (pc' := 12) (ls' := [.ref 33, .int x1, .int x2, .int (x3 / (mem 41 0)), .int (x4 + (-1)), .int (mem 36 (((60 * x2) + x4).toNatClampNeg))]) (st' := []) (mem' := mem) hS hC 3 rfl ?_
        exact k
      · replace k := k.2 (h)
        refine ex_many (pc' := 50) (ls' := [.ref 33, .int x1, .int x2, .int x3, .int x4, .int (mem 36 (((60 * x2) + x4).toNatClampNeg))]) (st' := [.int (mem 41 0), .int x3, .int (mem 36 (((60 * x2) + x4).toNatClampNeg))]) (mem' := mem) hS hC 6 rfl ?_
        refine ex_grd (b := !(decide ((mem 41 0) = 0))) (pc' := 51) (ls' := [.ref 33, .int x1, .int x2, .int x3, .int x4, .int (mem 36 (((60 * x2) + x4).toNatClampNeg))]) (st' := [.int (x3 - x3 / (mem 41 0) * (mem 41 0)), .int (mem 36 (((60 * x2) + x4).toNatClampNeg))]) (mem' := mem) hS hC rfl (pm_nz k.1) ?_
        replace k := k.2
        refine ex_br (P := (mem 36 (((60 * x2) + x4).toNatClampNeg)) = (x3 - x3 / (mem 41 0) * (mem 41 0))) (a := 56) (b := 54) (ls' := [.ref 33, .int x1, .int x2, .int x3, .int x4, .int (mem 36 (((60 * x2) + x4).toNatClampNeg))]) (st' := []) (mem' := mem) hS hC rfl (fun h => ?_) (fun h => ?_)
        · replace k := k.1 (h)
          refine ex_many (pc' := 63) (ls' := [.ref 33, .int x1, .int x2, .int x3, .int x4, .int (mem 36 (((60 * x2) + x4).toNatClampNeg))]) (st' := [.int (mem 41 0), .int x3]) (mem' := mem) hS hC 5 rfl ?_
          refine ex_grd (b := !(decide ((mem 41 0) = 0))) (pc' := 64) (ls' := [.ref 33, .int x1, .int x2, .int x3, .int x4, .int (mem 36 (((60 * x2) + x4).toNatClampNeg))]) (st' := [.int (x3 / (mem 41 0))]) (mem' := mem) hS hC rfl (pm_nz k.1) ?_
          replace k := k.2
          refine ex_many (pc' := 12) (ls' := [.ref 33, .int x1, .int x2, .int (x3 / (mem 41 0)), .int (x4 + (-1)), .int (mem 36 (((60 * x2) + x4).toNatClampNeg))]) (st' := []) (mem' := mem) hS hC 3 rfl ?_
          exact k
        · replace k := k.2 (h)
          refine ex_many (pc' := 55) (ls' := [.ref 33, .int x1, .int x2, .int x3, .int x4, .int (mem 36 (((60 * x2) + x4).toNatClampNeg))]) (st' := [.int 0]) (mem' := mem) hS hC 1 rfl ?_
          exact ex_ret (v := (some (.int 0))) hS hC rfl rfl rfl k

set_option maxRecDepth 20000 in
theorem bk_X10_smudged_0 {ro : pm_RO} {Q : Option Value → pm_M → Prop} {mem : pm_M} {a1 a2 : Int32} (k : (0 ≤ a1 ∧ a1 ≤ 3 → (0 ≤ a2 ∧ a2 ≤ 1 → (pm_inb a1 4 = true) ∧ ((0 ≤ (mem 34 a1.toNatClampNeg) → pm_Ex ro m_X10_reads 0 [.ref 33, .null] [] mem (fun v m => pm_Ex ro m_X10_smudged 36 [.ref 33, .int a1, .int a2, .null, .null, .null, .null] (v.toList ++ []) m Q)) ∧ (¬ (0 ≤ (mem 34 a1.toNatClampNeg)) → Q (some (.int ((-10) - (1 : Int32)))) (pm_up mem 33 4 (1 : Int32))))) ∧ (¬ (0 ≤ a2 ∧ a2 ≤ 1) → Q (some (.int (-2))) mem)) ∧ (¬ (0 ≤ a1 ∧ a1 ≤ 3) → Q (some (.int (-2))) mem)) : pm_Ex ro m_X10_smudged 0 [.ref 33, .int a1, .int a2, .null, .null, .null, .null] [] mem Q := by
  have hS : pm_sig[m_X10_smudged]? = some _ := rfl
  have hC : pm_cod[m_X10_smudged]? = some _ := rfl
  refine ex_many (pc' := 1) (ls' := [.ref 33, .int a1, .int a2, .null, .null, .null, .null]) (st' := [.int a1]) (mem' := mem) hS hC 1 rfl ?_
  refine ex_call (y' := m_X10_isSheet) (rest := []) (ent := [.int a1]) hS hC rfl rfl rfl rfl rfl rfl ?_
  refine bk_X10_isSheet_0 ?_
  show pm_Ex ro m_X10_smudged 4 [.ref 33, .int a1, .int a2, .null, .null, .null, .null] [.int (zb (0 ≤ a1 ∧ a1 ≤ 3))] mem Q
  refine ex_br (P := (zb (0 ≤ a1 ∧ a1 ≤ 3)) = 0) (a := 14) (b := 7) (ls' := [.ref 33, .int a1, .int a2, .null, .null, .null, .null]) (st' := []) (mem' := mem) hS hC rfl (fun h => ?_) (fun h => ?_)
  · replace k := k.2 (zb0 h)
    refine ex_many (pc' := 16) (ls' := [.ref 33, .int a1, .int a2, .null, .null, .null, .null]) (st' := [.int (-2)]) (mem' := mem) hS hC 1 rfl ?_
    exact ex_ret (v := (some (.int (-2)))) hS hC rfl rfl rfl k
  · replace k := k.1 (zb1 h)
    refine ex_many (pc' := 8) (ls' := [.ref 33, .int a1, .int a2, .null, .null, .null, .null]) (st' := [.int a2]) (mem' := mem) hS hC 1 rfl ?_
    refine ex_call (y' := m_X10_isTwo) (rest := []) (ent := [.int a2]) hS hC rfl rfl rfl rfl rfl rfl ?_
    refine bk_X10_isTwo_0 ?_
    show pm_Ex ro m_X10_smudged 11 [.ref 33, .int a1, .int a2, .null, .null, .null, .null] [.int (zb (0 ≤ a2 ∧ a2 ≤ 1))] mem Q
    refine ex_br (P := ¬ (zb (0 ≤ a2 ∧ a2 ≤ 1)) = 0) (a := 17) (b := 14) (ls' := [.ref 33, .int a1, .int a2, .null, .null, .null, .null]) (st' := []) (mem' := mem) hS hC rfl (fun h => ?_) (fun h => ?_)
    · replace k := k.1 (zb1 h)
      refine ex_many (pc' := 22) (ls' := [.ref 33, .int a1, .int a2, .null, .null, .null, .null]) (st' := [.int a1, .ref 34]) (mem' := mem) hS hC 3 rfl ?_
      refine ex_grd (b := pm_inb a1 4) (pc' := 23) (ls' := [.ref 33, .int a1, .int a2, .null, .null, .null, .null]) (st' := [.int (mem 34 a1.toNatClampNeg)]) (mem' := mem) hS hC rfl k.1 ?_
      replace k := k.2
      refine ex_br (P := 0 ≤ (mem 34 a1.toNatClampNeg)) (a := 32) (b := 26) (ls' := [.ref 33, .int a1, .int a2, .null, .null, .null, .null]) (st' := []) (mem' := mem) hS hC rfl (fun h => ?_) (fun h => ?_)
      · replace k := k.1 (h)
        refine ex_many (pc' := 33) (ls' := [.ref 33, .int a1, .int a2, .null, .null, .null, .null]) (st' := [.ref 33]) (mem' := mem) hS hC 1 rfl ?_
        refine ex_call (y' := m_X10_reads) (rest := []) (ent := [.ref 33, .null]) hS hC rfl rfl rfl rfl rfl rfl ?_
        exact k
      · replace k := k.2 (h)
        refine ex_many (pc' := 28) (ls' := [.ref 33, .int a1, .int a2, .null, .null, .null, .null]) (st' := [.int 1, .ref 33]) (mem' := mem) hS hC 2 rfl ?_
        refine ex_call (y' := m_X10_met) (rest := []) (ent := [.ref 33, .int 1]) hS hC rfl rfl rfl rfl rfl rfl ?_
        refine bk_X10_met_0 ?_
        show pm_Ex ro m_X10_smudged 31 [.ref 33, .int a1, .int a2, .null, .null, .null, .null] [.int ((-10) - (1 : Int32))] (pm_up mem 33 4 (1 : Int32)) Q
        exact ex_ret (v := (some (.int ((-10) - (1 : Int32))))) hS hC rfl rfl rfl k
    · replace k := k.2 (zb0n h)
      refine ex_many (pc' := 16) (ls' := [.ref 33, .int a1, .int a2, .null, .null, .null, .null]) (st' := [.int (-2)]) (mem' := mem) hS hC 1 rfl ?_
      exact ex_ret (v := (some (.int (-2)))) hS hC rfl rfl rfl k

set_option maxRecDepth 20000 in
theorem bk_X10_smudged_45 {ro : pm_RO} {Q : Option Value → pm_M → Prop} {mem : pm_M} {x1 x2 x3 x4 x5 : Int32} {d6 : Value} (k : ((((1 : Int32) <<< ((mem 33 8) &&& 31)) - 1) < x5 → Q (some (.int (if ¬ x2 = 0 then x4 else x3 : Int32))) mem) ∧ (¬ ((((1 : Int32) <<< ((mem 33 8) &&& 31)) - 1) < x5) → pm_Ex ro m_X10_sumOf 0 [.ref 33, .int x5, .null, .null] [] mem (fun v m => pm_Ex ro m_X10_smudged 62 [.ref 33, .int x1, .int x2, .int x3, .int x4, .int x5, d6] (v.toList ++ [.ref 33, .ref 33]) m Q))) : pm_Ex ro m_X10_smudged 45 [.ref 33, .int x1, .int x2, .int x3, .int x4, .int x5, d6] [] mem Q := by
  have hS : pm_sig[m_X10_smudged]? = some _ := rfl
  have hC : pm_cod[m_X10_smudged]? = some _ := rfl
  refine ex_many (pc' := 48) (ls' := [.ref 33, .int x1, .int x2, .int x3, .int x4, .int x5, d6]) (st' := [.ref 33, .int x5]) (mem' := mem) hS hC 2 rfl ?_
  refine ex_call (y' := m_X10_whole) (rest := [.int x5]) (ent := [.ref 33]) hS hC rfl rfl rfl rfl rfl rfl ?_
  refine bk_X10_whole_0 ?_
  show pm_Ex ro m_X10_smudged 51 [.ref 33, .int x1, .int x2, .int x3, .int x4, .int x5, d6] [.int (((1 : Int32) <<< ((mem 33 8) &&& 31)) - 1), .int x5] mem Q
  refine ex_br (P := (((1 : Int32) <<< ((mem 33 8) &&& 31)) - 1) < x5) (a := 110) (b := 54) (ls' := [.ref 33, .int x1, .int x2, .int x3, .int x4, .int x5, d6]) (st' := []) (mem' := mem) hS hC rfl (fun h => ?_) (fun h => ?_)
  · replace k := k.1 (h)
    refine ex_many (pc' := 111) (ls' := [.ref 33, .int x1, .int x2, .int x3, .int x4, .int x5, d6]) (st' := [.int x2]) (mem' := mem) hS hC 1 rfl ?_
    have kp50 : pm_Ex ro m_X10_smudged 120 [.ref 33, .int x1, .int x2, .int x3, .int x4, .int x5, d6] [.int (if ¬ x2 = 0 then x4 else x3 : Int32)] mem Q := by
      exact ex_ret (v := (some (.int (if ¬ x2 = 0 then x4 else x3 : Int32)))) hS hC rfl rfl rfl k
    refine ex_br (P := ¬ x2 = 0) (a := 118) (b := 114) (ls' := [.ref 33, .int x1, .int x2, .int x3, .int x4, .int x5, d6]) (st' := []) (mem' := mem) hS hC rfl (fun h => ?_) (fun h => ?_)
    · have kp50a : pm_Ex ro m_X10_smudged 120 [.ref 33, .int x1, .int x2, .int x3, .int x4, .int x5, d6] [.int x4] mem Q := pm_phi1 (f := fun z0 => pm_Ex ro m_X10_smudged 120 [.ref 33, .int x1, .int x2, .int x3, .int x4, .int x5, d6] [.int z0] mem Q) (if_pos (h)) kp50
      refine ex_many (pc' := 120) (ls' := [.ref 33, .int x1, .int x2, .int x3, .int x4, .int x5, d6]) (st' := [.int x4]) (mem' := mem) hS hC 1 rfl ?_
      exact kp50a
    · have kp50b : pm_Ex ro m_X10_smudged 120 [.ref 33, .int x1, .int x2, .int x3, .int x4, .int x5, d6] [.int x3] mem Q := pm_phi1 (f := fun z0 => pm_Ex ro m_X10_smudged 120 [.ref 33, .int x1, .int x2, .int x3, .int x4, .int x5, d6] [.int z0] mem Q) (if_neg (h)) kp50
      refine ex_many (pc' := 120) (ls' := [.ref 33, .int x1, .int x2, .int x3, .int x4, .int x5, d6]) (st' := [.int x3]) (mem' := mem) hS hC 2 rfl ?_
      exact kp50b
  · replace k := k.2 (h)
    refine ex_many (pc' := 59) (ls' := [.ref 33, .int x1, .int x2, .int x3, .int x4, .int x5, d6]) (st' := [.int x5, .ref 33, .ref 33, .ref 33]) (mem' := mem) hS hC 4 rfl ?_
    refine ex_call (y' := m_X10_sumOf) (rest := [.ref 33, .ref 33]) (ent := [.ref 33, .int x5, .null, .null]) hS hC rfl rfl rfl rfl rfl rfl ?_
    exact k

set_option maxRecDepth 20000 in
theorem bk_X10_smudged_36 {ro : pm_RO} {Q : Option Value → pm_M → Prop} {mem : pm_M} {x1 x2 s0 : Int32} (k : pm_Ex ro m_X10_smudged 45 [.ref 33, .int x1, .int x2, .int 0, .int (-1), .int 1, .null] [] mem Q) : pm_Ex ro m_X10_smudged 36 [.ref 33, .int x1, .int x2, .null, .null, .null, .null] [.int s0] mem Q := by
  have hS : pm_sig[m_X10_smudged]? = some _ := rfl
  have hC : pm_cod[m_X10_smudged]? = some _ := rfl
  refine ex_many (pc' := 45) (ls' := [.ref 33, .int x1, .int x2, .int 0, .int (-1), .int 1, .null]) (st' := []) (mem' := mem) hS hC 7 rfl ?_
  exact k

set_option maxRecDepth 20000 in
theorem bk_X10_smudged_62 {ro : pm_RO} {Q : Option Value → pm_M → Prop} {mem : pm_M} {x1 x2 x3 x4 x5 s0 : Int32} {d6 : Value} (k : pm_Ex ro m_X10_paidFor 0 [.ref 33, .int s0, .null, .null, .null, .null] [] mem (fun v m => pm_Ex ro m_X10_smudged 65 [.ref 33, .int x1, .int x2, .int x3, .int x4, .int x5, d6] (v.toList ++ [.ref 33]) m Q)) : pm_Ex ro m_X10_smudged 62 [.ref 33, .int x1, .int x2, .int x3, .int x4, .int x5, d6] [.int s0, .ref 33, .ref 33] mem Q := by
  have hS : pm_sig[m_X10_smudged]? = some _ := rfl
  have hC : pm_cod[m_X10_smudged]? = some _ := rfl
  refine ex_call (y' := m_X10_paidFor) (rest := [.ref 33]) (ent := [.ref 33, .int s0, .null, .null, .null, .null]) hS hC rfl rfl rfl rfl rfl rfl ?_
  exact k

set_option maxRecDepth 20000 in
theorem bk_X10_smudged_65 {ro : pm_RO} {Q : Option Value → pm_M → Prop} {mem : pm_M} {x1 x2 x3 x4 x5 s0 : Int32} {d6 : Value} (k : pm_Ex ro m_X10_fits 0 [.ref 33, .int s0, .int x1, .null, .null, .null] [] mem (fun v m => pm_Ex ro m_X10_smudged 69 [.ref 33, .int x1, .int x2, .int x3, .int x4, .int x5, d6] (v.toList ++ []) m Q)) : pm_Ex ro m_X10_smudged 65 [.ref 33, .int x1, .int x2, .int x3, .int x4, .int x5, d6] [.int s0, .ref 33] mem Q := by
  have hS : pm_sig[m_X10_smudged]? = some _ := rfl
  have hC : pm_cod[m_X10_smudged]? = some _ := rfl
  refine ex_many (pc' := 66) (ls' := [.ref 33, .int x1, .int x2, .int x3, .int x4, .int x5, d6]) (st' := [.int x1, .int s0, .ref 33]) (mem' := mem) hS hC 1 rfl ?_
  refine ex_call (y' := m_X10_fits) (rest := []) (ent := [.ref 33, .int s0, .int x1, .null, .null, .null]) hS hC rfl rfl rfl rfl rfl rfl ?_
  exact k

set_option maxRecDepth 20000 in
theorem bk_X10_smudged_69 {ro : pm_RO} {Q : Option Value → pm_M → Prop} {mem : pm_M} {x1 x2 x3 x4 x5 s0 : Int32} {d6 : Value} (k : pm_Ex ro m_X10_smudged 45 [.ref 33, .int x1, .int x2, .int (x3 + (zb (¬ (s0 = 0)))), .int (if s0 = 0 then x4 else (if ¬ x4 = (-1) then x4 else x5 : Int32) : Int32), .int (x5 + 1), .int s0] [] mem Q) : pm_Ex ro m_X10_smudged 69 [.ref 33, .int x1, .int x2, .int x3, .int x4, .int x5, d6] [.int s0] mem Q := by
  have hS : pm_sig[m_X10_smudged]? = some _ := rfl
  have hC : pm_cod[m_X10_smudged]? = some _ := rfl
  refine ex_many (pc' := 73) (ls' := [.ref 33, .int x1, .int x2, .int x3, .int x4, .int x5, .int s0]) (st' := [.int s0]) (mem' := mem) hS hC 2 rfl ?_
  have kp53 : pm_Ex ro m_X10_smudged 89 [.ref 33, .int x1, .int x2, .int x3, .int x4, .int x5, .int s0] [.int (if s0 = 0 then x4 else (if ¬ x4 = (-1) then x4 else x5 : Int32) : Int32)] mem Q := by
    refine ex_many (pc' := 94) (ls' := [.ref 33, .int x1, .int x2, .int x3, .int (if s0 = 0 then x4 else (if ¬ x4 = (-1) then x4 else x5 : Int32) : Int32), .int x5, .int s0]) (st' := [.int s0, .int x3]) (mem' := mem) hS hC 3 rfl ?_
    have kp52 : pm_Ex ro m_X10_smudged 102 [.ref 33, .int x1, .int x2, .int x3, .int (if s0 = 0 then x4 else (if ¬ x4 = (-1) then x4 else x5 : Int32) : Int32), .int x5, .int s0] [.int (zb (¬ (s0 = 0))), .int x3] mem Q := by
      refine ex_many (pc' := 45) (ls' := [.ref 33, .int x1, .int x2, .int (x3 + (zb (¬ (s0 = 0)))), .int (if s0 = 0 then x4 else (if ¬ x4 = (-1) then x4 else x5 : Int32) : Int32), .int (x5 + 1), .int s0]) (st' := []) (mem' := mem) hS hC 4 rfl ?_
      exact k
    refine ex_br (P := s0 = 0) (a := 101) (b := 97) (ls' := [.ref 33, .int x1, .int x2, .int x3, .int (if s0 = 0 then x4 else (if ¬ x4 = (-1) then x4 else x5 : Int32) : Int32), .int x5, .int s0]) (st' := [.int x3]) (mem' := mem) hS hC rfl (fun h => ?_) (fun h => ?_)
    · have kp52a : pm_Ex ro m_X10_smudged 102 [.ref 33, .int x1, .int x2, .int x3, .int (if s0 = 0 then x4 else (if ¬ x4 = (-1) then x4 else x5 : Int32) : Int32), .int x5, .int s0] [.int 0, .int x3] mem Q := pm_phi1 (f := fun z0 => pm_Ex ro m_X10_smudged 102 [.ref 33, .int x1, .int x2, .int x3, .int (if s0 = 0 then x4 else (if ¬ x4 = (-1) then x4 else x5 : Int32) : Int32), .int x5, .int s0] [.int z0, .int x3] mem Q) (zb_npos (h)) kp52
      refine ex_many (pc' := 102) (ls' := [.ref 33, .int x1, .int x2, .int x3, .int (if s0 = 0 then x4 else (if ¬ x4 = (-1) then x4 else x5 : Int32) : Int32), .int x5, .int s0]) (st' := [.int 0, .int x3]) (mem' := mem) hS hC 1 rfl ?_
      exact kp52a
    · have kp52b : pm_Ex ro m_X10_smudged 102 [.ref 33, .int x1, .int x2, .int x3, .int (if s0 = 0 then x4 else (if ¬ x4 = (-1) then x4 else x5 : Int32) : Int32), .int x5, .int s0] [.int 1, .int x3] mem Q := pm_phi1 (f := fun z0 => pm_Ex ro m_X10_smudged 102 [.ref 33, .int x1, .int x2, .int x3, .int (if s0 = 0 then x4 else (if ¬ x4 = (-1) then x4 else x5 : Int32) : Int32), .int x5, .int s0] [.int z0, .int x3] mem Q) (zb_nneg (h)) kp52
      refine ex_many (pc' := 102) (ls' := [.ref 33, .int x1, .int x2, .int x3, .int (if s0 = 0 then x4 else (if ¬ x4 = (-1) then x4 else x5 : Int32) : Int32), .int x5, .int s0]) (st' := [.int 1, .int x3]) (mem' := mem) hS hC 2 rfl ?_
      exact kp52b
  refine ex_br (P := s0 = 0) (a := 87) (b := 76) (ls' := [.ref 33, .int x1, .int x2, .int x3, .int x4, .int x5, .int s0]) (st' := []) (mem' := mem) hS hC rfl (fun h => ?_) (fun h => ?_)
  · have kp53a : pm_Ex ro m_X10_smudged 89 [.ref 33, .int x1, .int x2, .int x3, .int x4, .int x5, .int s0] [.int x4] mem Q := pm_phi1 (f := fun z0 => pm_Ex ro m_X10_smudged 89 [.ref 33, .int x1, .int x2, .int x3, .int x4, .int x5, .int s0] [.int z0] mem Q) (if_pos (h)) kp53
    refine ex_many (pc' := 89) (ls' := [.ref 33, .int x1, .int x2, .int x3, .int x4, .int x5, .int s0]) (st' := [.int x4]) (mem' := mem) hS hC 1 rfl ?_
    exact kp53a
  · have kp53b : pm_Ex ro m_X10_smudged 89 [.ref 33, .int x1, .int x2, .int x3, .int x4, .int x5, .int s0] [.int (if ¬ x4 = (-1) then x4 else x5 : Int32)] mem Q := pm_phi1 (f := fun z0 => pm_Ex ro m_X10_smudged 89 [.ref 33, .int x1, .int x2, .int x3, .int x4, .int x5, .int s0] [.int z0] mem Q) (if_neg (h)) kp53
    have kp51 : pm_Ex ro m_X10_smudged 89 [.ref 33, .int x1, .int x2, .int x3, .int x4, .int x5, .int s0] [.int (if ¬ x4 = (-1) then x4 else x5 : Int32)] mem Q := by
      exact kp53b
    refine ex_many (pc' := 79) (ls' := [.ref 33, .int x1, .int x2, .int x3, .int x4, .int x5, .int s0]) (st' := [.int (-1), .int x4]) (mem' := mem) hS hC 2 rfl ?_
    refine ex_br (P := ¬ x4 = (-1)) (a := 87) (b := 82) (ls' := [.ref 33, .int x1, .int x2, .int x3, .int x4, .int x5, .int s0]) (st' := []) (mem' := mem) hS hC rfl (fun h => ?_) (fun h => ?_)
    · have kp51a : pm_Ex ro m_X10_smudged 89 [.ref 33, .int x1, .int x2, .int x3, .int x4, .int x5, .int s0] [.int x4] mem Q := pm_phi1 (f := fun z0 => pm_Ex ro m_X10_smudged 89 [.ref 33, .int x1, .int x2, .int x3, .int x4, .int x5, .int s0] [.int z0] mem Q) (if_pos (h)) kp51
      refine ex_many (pc' := 89) (ls' := [.ref 33, .int x1, .int x2, .int x3, .int x4, .int x5, .int s0]) (st' := [.int x4]) (mem' := mem) hS hC 1 rfl ?_
      exact kp51a
    · have kp51b : pm_Ex ro m_X10_smudged 89 [.ref 33, .int x1, .int x2, .int x3, .int x4, .int x5, .int s0] [.int x5] mem Q := pm_phi1 (f := fun z0 => pm_Ex ro m_X10_smudged 89 [.ref 33, .int x1, .int x2, .int x3, .int x4, .int x5, .int s0] [.int z0] mem Q) (if_neg (h)) kp51
      refine ex_many (pc' := 89) (ls' := [.ref 33, .int x1, .int x2, .int x3, .int x4, .int x5, .int s0]) (st' := [.int x5]) (mem' := mem) hS hC 2 rfl ?_
      exact kp51b

set_option maxRecDepth 20000 in
theorem bk_X10_value_0 {ro : pm_RO} {Q : Option Value → pm_M → Prop} {mem : pm_M} {a1 a2 a3 : Int32} (k : (a1 < a3 → (pm_inb ((2 * a1) + a2) 420 = true) ∧ (Q (some (.int (mem 48 (((2 * a1) + a2).toNatClampNeg)))) mem)) ∧ (¬ (a1 < a3) → pm_Ex ro m_X10_paidFor 0 [.ref 33, .int a1, .null, .null, .null, .null] [] mem (fun v m => pm_Ex ro m_X10_value 10 [.ref 33, .int a1, .int a2, .int a3] (v.toList ++ []) m Q))) : pm_Ex ro m_X10_value 0 [.ref 33, .int a1, .int a2, .int a3] [] mem Q := by
  have hS : pm_sig[m_X10_value]? = some _ := rfl
  have hC : pm_cod[m_X10_value]? = some _ := rfl
  refine ex_many (pc' := 2) (ls' := [.ref 33, .int a1, .int a2, .int a3]) (st' := [.int a3, .int a1]) (mem' := mem) hS hC 2 rfl ?_
  refine ex_br (P := a1 < a3) (a := 13) (b := 5) (ls' := [.ref 33, .int a1, .int a2, .int a3]) (st' := []) (mem' := mem) hS hC rfl (fun h => ?_) (fun h => ?_)
  · replace k := k.1 (h)
    refine ex_many (pc' := 22) (ls' := [.ref 33, .int a1, .int a2, .int a3]) (st' := [.int ((2 * a1) + a2), .ref 48]) (mem' := mem) hS hC 7 rfl ?_
    refine ex_grd (b := pm_inb ((2 * a1) + a2) 420) (pc' := 23) (ls' := [.ref 33, .int a1, .int a2, .int a3]) (st' := [.int (mem 48 (((2 * a1) + a2).toNatClampNeg))]) (mem' := mem) hS hC rfl k.1 ?_
    replace k := k.2
    exact ex_ret (v := (some (.int (mem 48 (((2 * a1) + a2).toNatClampNeg))))) hS hC rfl rfl rfl k
  · replace k := k.2 (h)
    refine ex_many (pc' := 7) (ls' := [.ref 33, .int a1, .int a2, .int a3]) (st' := [.int a1, .ref 33]) (mem' := mem) hS hC 2 rfl ?_
    refine ex_call (y' := m_X10_paidFor) (rest := []) (ent := [.ref 33, .int a1, .null, .null, .null, .null]) hS hC rfl rfl rfl rfl rfl rfl ?_
    exact k

set_option maxRecDepth 20000 in
theorem bk_X10_value_10 {ro : pm_RO} {Q : Option Value → pm_M → Prop} {mem : pm_M} {x1 x2 x3 s0 : Int32} (k : Q (some (.int s0)) mem) : pm_Ex ro m_X10_value 10 [.ref 33, .int x1, .int x2, .int x3] [.int s0] mem Q := by
  have hS : pm_sig[m_X10_value]? = some _ := rfl
  have hC : pm_cod[m_X10_value]? = some _ := rfl
  refine ex_many (pc' := 23) (ls' := [.ref 33, .int x1, .int x2, .int x3]) (st' := [.int s0]) (mem' := mem) hS hC 1 rfl ?_
  exact ex_ret (v := (some (.int s0))) hS hC rfl rfl rfl k

set_option maxRecDepth 20000 in
theorem bk_X10_gameOf_0 {ro : pm_RO} {Q : Option Value → pm_M → Prop} {mem : pm_M} {a1 a2 a3 a4 : Int32} (k : (a1 < a3 → pm_Ex ro m_X10_gameOf 28 [.ref 33, .int a1, .int a2, .int a3, .int a4, .int 0, .int (a3 - 1), .null, .null, .null, .null, .null, .null] [] mem Q) ∧ (¬ (a1 < a3) → (¬ a4 = 0 → Q (some (.int 0)) mem) ∧ (¬ (¬ a4 = 0) → pm_Ex ro m_X10_paidFor 0 [.ref 33, .int a1, .null, .null, .null, .null] [] mem (fun v m => pm_Ex ro m_X10_gameOf 15 [.ref 33, .int a1, .int a2, .int a3, .int a4, .null, .null, .null, .null, .null, .null, .null, .null] (v.toList ++ []) m Q)))) : pm_Ex ro m_X10_gameOf 0 [.ref 33, .int a1, .int a2, .int a3, .int a4, .null, .null, .null, .null, .null, .null, .null, .null] [] mem Q := by
  have hS : pm_sig[m_X10_gameOf]? = some _ := rfl
  have hC : pm_cod[m_X10_gameOf]? = some _ := rfl
  refine ex_many (pc' := 2) (ls' := [.ref 33, .int a1, .int a2, .int a3, .int a4, .null, .null, .null, .null, .null, .null, .null, .null]) (st' := [.int a3, .int a1]) (mem' := mem) hS hC 2 rfl ?_
  refine ex_br (P := a1 < a3) (a := 20) (b := 5) (ls' := [.ref 33, .int a1, .int a2, .int a3, .int a4, .null, .null, .null, .null, .null, .null, .null, .null]) (st' := []) (mem' := mem) hS hC rfl (fun h => ?_) (fun h => ?_)
  · replace k := k.1 (h)
    refine ex_many (pc' := 28) (ls' := [.ref 33, .int a1, .int a2, .int a3, .int a4, .int 0, .int (a3 - 1), .null, .null, .null, .null, .null, .null]) (st' := []) (mem' := mem) hS hC 6 rfl ?_
    exact k
  · replace k := k.2 (h)
    refine ex_many (pc' := 7) (ls' := [.ref 33, .int a1, .int a2, .int a3, .int a4, .null, .null, .null, .null, .null, .null, .null, .null]) (st' := [.int a4]) (mem' := mem) hS hC 1 rfl ?_
    refine ex_br (P := ¬ a4 = 0) (a := 18) (b := 10) (ls' := [.ref 33, .int a1, .int a2, .int a3, .int a4, .null, .null, .null, .null, .null, .null, .null, .null]) (st' := []) (mem' := mem) hS hC rfl (fun h => ?_) (fun h => ?_)
    · replace k := k.1 (h)
      refine ex_many (pc' := 19) (ls' := [.ref 33, .int a1, .int a2, .int a3, .int a4, .null, .null, .null, .null, .null, .null, .null, .null]) (st' := [.int 0]) (mem' := mem) hS hC 1 rfl ?_
      exact ex_ret (v := (some (.int 0))) hS hC rfl rfl rfl k
    · replace k := k.2 (h)
      refine ex_many (pc' := 12) (ls' := [.ref 33, .int a1, .int a2, .int a3, .int a4, .null, .null, .null, .null, .null, .null, .null, .null]) (st' := [.int a1, .ref 33]) (mem' := mem) hS hC 2 rfl ?_
      refine ex_call (y' := m_X10_paidFor) (rest := []) (ent := [.ref 33, .int a1, .null, .null, .null, .null]) hS hC rfl rfl rfl rfl rfl rfl ?_
      exact k

set_option maxRecDepth 20000 in
theorem bk_X10_gameOf_28 {ro : pm_RO} {Q : Option Value → pm_M → Prop} {mem : pm_M} {x1 x2 x3 x4 x5 x6 : Int32} {d7 d8 d9 d10 d11 d12 : Value} (k : (x6 < x1 → (¬ x4 = 0 → Q (some (.int x5)) mem) ∧ (¬ (¬ x4 = 0) → (pm_inb (2 * x1) 420 = true) ∧ (Q (some (.int (mem 48 ((2 * x1).toNatClampNeg)))) mem))) ∧ (¬ (x6 < x1) → pm_Ex ro m_X10_gameOf 37 [.ref 33, .int x1, .int x2, .int x3, .int x4, .int x5, .int x6, .int 0, d8, d9, d10, d11, d12] [] mem Q)) : pm_Ex ro m_X10_gameOf 28 [.ref 33, .int x1, .int x2, .int x3, .int x4, .int x5, .int x6, d7, d8, d9, d10, d11, d12] [] mem Q := by
  have hS : pm_sig[m_X10_gameOf]? = some _ := rfl
  have hC : pm_cod[m_X10_gameOf]? = some _ := rfl
  refine ex_many (pc' := 31) (ls' := [.ref 33, .int x1, .int x2, .int x3, .int x4, .int x5, .int x6, d7, d8, d9, d10, d11, d12]) (st' := [.int x1, .int x6]) (mem' := mem) hS hC 2 rfl ?_
  refine ex_br (P := x6 < x1) (a := 193) (b := 34) (ls' := [.ref 33, .int x1, .int x2, .int x3, .int x4, .int x5, .int x6, d7, d8, d9, d10, d11, d12]) (st' := []) (mem' := mem) hS hC rfl (fun h => ?_) (fun h => ?_)
  · replace k := k.1 (h)
    refine ex_many (pc' := 195) (ls' := [.ref 33, .int x1, .int x2, .int x3, .int x4, .int x5, .int x6, d7, d8, d9, d10, d11, d12]) (st' := [.int x4]) (mem' := mem) hS hC 1 rfl ?_
    refine ex_br (P := ¬ x4 = 0) (a := 209) (b := 198) (ls' := [.ref 33, .int x1, .int x2, .int x3, .int x4, .int x5, .int x6, d7, d8, d9, d10, d11, d12]) (st' := []) (mem' := mem) hS hC rfl (fun h => ?_) (fun h => ?_)
    · replace k := k.1 (h)
      refine ex_many (pc' := 211) (ls' := [.ref 33, .int x1, .int x2, .int x3, .int x4, .int x5, .int x6, d7, d8, d9, d10, d11, d12]) (st' := [.int x5]) (mem' := mem) hS hC 1 rfl ?_
      exact ex_ret (v := (some (.int x5))) hS hC rfl rfl rfl k
    · replace k := k.2 (h)
      refine ex_many (pc' := 205) (ls' := [.ref 33, .int x1, .int x2, .int x3, .int x4, .int x5, .int x6, d7, d8, d9, d10, d11, d12]) (st' := [.int (2 * x1), .ref 48]) (mem' := mem) hS hC 5 rfl ?_
      refine ex_grd (b := pm_inb (2 * x1) 420) (pc' := 206) (ls' := [.ref 33, .int x1, .int x2, .int x3, .int x4, .int x5, .int x6, d7, d8, d9, d10, d11, d12]) (st' := [.int (mem 48 ((2 * x1).toNatClampNeg))]) (mem' := mem) hS hC rfl k.1 ?_
      replace k := k.2
      refine ex_many (pc' := 211) (ls' := [.ref 33, .int x1, .int x2, .int x3, .int x4, .int x5, .int x6, d7, d8, d9, d10, d11, d12]) (st' := [.int (mem 48 ((2 * x1).toNatClampNeg))]) (mem' := mem) hS hC 1 rfl ?_
      exact ex_ret (v := (some (.int (mem 48 ((2 * x1).toNatClampNeg))))) hS hC rfl rfl rfl k
  · replace k := k.2 (h)
    refine ex_many (pc' := 37) (ls' := [.ref 33, .int x1, .int x2, .int x3, .int x4, .int x5, .int x6, .int 0, d8, d9, d10, d11, d12]) (st' := []) (mem' := mem) hS hC 2 rfl ?_
    exact k

set_option maxRecDepth 20000 in
theorem bk_X10_gameOf_37 {ro : pm_RO} {Q : Option Value → pm_M → Prop} {mem : pm_M} {x1 x2 x3 x4 x5 x6 x7 : Int32} {d8 d9 d10 d11 d12 : Value} (k : (2 ≤ x7 → pm_Ex ro m_X10_gameOf 28 [.ref 33, .int x1, .int x2, .int x3, .int x4, .int x5, .int (x6 + (-1)), .int x7, d8, d9, d10, d11, d12] [] mem Q) ∧ (¬ (2 ≤ x7) → pm_Ex ro m_X10_gameOf 52 [.ref 33, .int x1, .int x2, .int x3, .int x4, .int x5, .int x6, .int x7, .int (-1), .int 0, .int 1, d11, d12] [] mem Q)) : pm_Ex ro m_X10_gameOf 37 [.ref 33, .int x1, .int x2, .int x3, .int x4, .int x5, .int x6, .int x7, d8, d9, d10, d11, d12] [] mem Q := by
  have hS : pm_sig[m_X10_gameOf]? = some _ := rfl
  have hC : pm_cod[m_X10_gameOf]? = some _ := rfl
  refine ex_many (pc' := 40) (ls' := [.ref 33, .int x1, .int x2, .int x3, .int x4, .int x5, .int x6, .int x7, d8, d9, d10, d11, d12]) (st' := [.int 2, .int x7]) (mem' := mem) hS hC 2 rfl ?_
  refine ex_br (P := 2 ≤ x7) (a := 187) (b := 43) (ls' := [.ref 33, .int x1, .int x2, .int x3, .int x4, .int x5, .int x6, .int x7, d8, d9, d10, d11, d12]) (st' := []) (mem' := mem) hS hC rfl (fun h => ?_) (fun h => ?_)
  · replace k := k.1 (h)
    refine ex_many (pc' := 28) (ls' := [.ref 33, .int x1, .int x2, .int x3, .int x4, .int x5, .int (x6 + (-1)), .int x7, d8, d9, d10, d11, d12]) (st' := []) (mem' := mem) hS hC 2 rfl ?_
    exact k
  · replace k := k.2 (h)
    refine ex_many (pc' := 52) (ls' := [.ref 33, .int x1, .int x2, .int x3, .int x4, .int x5, .int x6, .int x7, .int (-1), .int 0, .int 1, d11, d12]) (st' := []) (mem' := mem) hS hC 6 rfl ?_
    exact k

set_option maxRecDepth 20000 in
theorem bk_X10_gameOf_52 {ro : pm_RO} {Q : Option Value → pm_M → Prop} {mem : pm_M} {x1 x2 x3 x4 x5 x6 x7 x8 x9 x10 : Int32} {d11 d12 : Value} (k : (10 ≤ x10 → (pm_inb ((2 * x6) + x7) 420 = true) ∧ (pm_Ex ro m_X10_gameOf 37 [.ref 33, .int x1, .int x2, .int x3, .int x4, .int (if ¬ x7 = 0 then x5 else x9 : Int32), .int x6, .int (x7 + 1), .int x8, .int x9, .int x10, d11, d12] [] (pm_up mem 48 (((2 * x6) + x7).toNatClampNeg) x8) Q)) ∧ (¬ (10 ≤ x10) → (¬ (¬ ((x2 >>> (x10 &&& 31)) &&& 1) = 1) → pm_Ex ro m_X10_value 0 [.ref 33, .int (x6 + x10), .int (1 - x7), .int x3] [] mem (fun v m => pm_Ex ro m_X10_gameOf 82 [.ref 33, .int x1, .int x2, .int x3, .int x4, .int x5, .int x6, .int x7, .int x8, .int x9, .int x10, d11, d12] (v.toList ++ []) m Q)) ∧ (¬ (¬ (¬ ((x2 >>> (x10 &&& 31)) &&& 1) = 1)) → pm_Ex ro m_X10_gameOf 52 [.ref 33, .int x1, .int x2, .int x3, .int x4, .int x5, .int x6, .int x7, .int x8, .int x9, .int (x10 + 1), d11, d12] [] mem Q))) : pm_Ex ro m_X10_gameOf 52 [.ref 33, .int x1, .int x2, .int x3, .int x4, .int x5, .int x6, .int x7, .int x8, .int x9, .int x10, d11, d12] [] mem Q := by
  have hS : pm_sig[m_X10_gameOf]? = some _ := rfl
  have hC : pm_cod[m_X10_gameOf]? = some _ := rfl
  refine ex_many (pc' := 56) (ls' := [.ref 33, .int x1, .int x2, .int x3, .int x4, .int x5, .int x6, .int x7, .int x8, .int x9, .int x10, d11, d12]) (st' := [.int 10, .int x10]) (mem' := mem) hS hC 2 rfl ?_
  refine ex_br (P := 10 ≤ x10) (a := 153) (b := 59) (ls' := [.ref 33, .int x1, .int x2, .int x3, .int x4, .int x5, .int x6, .int x7, .int x8, .int x9, .int x10, d11, d12]) (st' := []) (mem' := mem) hS hC rfl (fun h => ?_) (fun h => ?_)
  · replace k := k.1 (h)
    refine ex_many (pc' := 166) (ls' := [.ref 33, .int x1, .int x2, .int x3, .int x4, .int x5, .int x6, .int x7, .int x8, .int x9, .int x10, d11, d12]) (st' := [.int x8, .int ((2 * x6) + x7), .ref 48]) (mem' := mem) hS hC 8 rfl ?_
    refine ex_grd (b := pm_inb ((2 * x6) + x7) 420) (pc' := 167) (ls' := [.ref 33, .int x1, .int x2, .int x3, .int x4, .int x5, .int x6, .int x7, .int x8, .int x9, .int x10, d11, d12]) (st' := []) (mem' := pm_up mem 48 (((2 * x6) + x7).toNatClampNeg) x8) hS hC rfl k.1 ?_
    replace k := k.2
    refine ex_many (pc' := 169) (ls' := [.ref 33, .int x1, .int x2, .int x3, .int x4, .int x5, .int x6, .int x7, .int x8, .int x9, .int x10, d11, d12]) (st' := [.int x7]) (mem' := pm_up mem 48 (((2 * x6) + x7).toNatClampNeg) x8) hS hC 1 rfl ?_
    have kp54 : pm_Ex ro m_X10_gameOf 179 [.ref 33, .int x1, .int x2, .int x3, .int x4, .int x5, .int x6, .int x7, .int x8, .int x9, .int x10, d11, d12] [.int (if ¬ x7 = 0 then x5 else x9 : Int32)] (pm_up mem 48 (((2 * x6) + x7).toNatClampNeg) x8) Q := by
      refine ex_many (pc' := 37) (ls' := [.ref 33, .int x1, .int x2, .int x3, .int x4, .int (if ¬ x7 = 0 then x5 else x9 : Int32), .int x6, .int (x7 + 1), .int x8, .int x9, .int x10, d11, d12]) (st' := []) (mem' := pm_up mem 48 (((2 * x6) + x7).toNatClampNeg) x8) hS hC 3 rfl ?_
      exact k
    refine ex_br (P := ¬ x7 = 0) (a := 177) (b := 172) (ls' := [.ref 33, .int x1, .int x2, .int x3, .int x4, .int x5, .int x6, .int x7, .int x8, .int x9, .int x10, d11, d12]) (st' := []) (mem' := pm_up mem 48 (((2 * x6) + x7).toNatClampNeg) x8) hS hC rfl (fun h => ?_) (fun h => ?_)
    · have kp54a : pm_Ex ro m_X10_gameOf 179 [.ref 33, .int x1, .int x2, .int x3, .int x4, .int x5, .int x6, .int x7, .int x8, .int x9, .int x10, d11, d12] [.int x5] (pm_up mem 48 (((2 * x6) + x7).toNatClampNeg) x8) Q := pm_phi1 (f := fun z0 => pm_Ex ro m_X10_gameOf 179 [.ref 33, .int x1, .int x2, .int x3, .int x4, .int x5, .int x6, .int x7, .int x8, .int x9, .int x10, d11, d12] [.int z0] (pm_up mem 48 (((2 * x6) + x7).toNatClampNeg) x8) Q) (if_pos (h)) kp54
      refine ex_many (pc' := 179) (ls' := [.ref 33, .int x1, .int x2, .int x3, .int x4, .int x5, .int x6, .int x7, .int x8, .int x9, .int x10, d11, d12]) (st' := [.int x5]) (mem' := pm_up mem 48 (((2 * x6) + x7).toNatClampNeg) x8) hS hC 1 rfl ?_
      exact kp54a
    · have kp54b : pm_Ex ro m_X10_gameOf 179 [.ref 33, .int x1, .int x2, .int x3, .int x4, .int x5, .int x6, .int x7, .int x8, .int x9, .int x10, d11, d12] [.int x9] (pm_up mem 48 (((2 * x6) + x7).toNatClampNeg) x8) Q := pm_phi1 (f := fun z0 => pm_Ex ro m_X10_gameOf 179 [.ref 33, .int x1, .int x2, .int x3, .int x4, .int x5, .int x6, .int x7, .int x8, .int x9, .int x10, d11, d12] [.int z0] (pm_up mem 48 (((2 * x6) + x7).toNatClampNeg) x8) Q) (if_neg (h)) kp54
      refine ex_many (pc' := 179) (ls' := [.ref 33, .int x1, .int x2, .int x3, .int x4, .int x5, .int x6, .int x7, .int x8, .int x9, .int x10, d11, d12]) (st' := [.int x9]) (mem' := pm_up mem 48 (((2 * x6) + x7).toNatClampNeg) x8) hS hC 2 rfl ?_
      exact kp54b
  · replace k := k.2 (h)
    refine ex_many (pc' := 62) (ls' := [.ref 33, .int x1, .int x2, .int x3, .int x4, .int x5, .int x6, .int x7, .int x8, .int x9, .int x10, d11, d12]) (st' := [.int x10, .int x2]) (mem' := mem) hS hC 2 rfl ?_
    refine ex_call (y' := m_X10_isIn) (rest := []) (ent := [.int x2, .int x10]) hS hC rfl rfl rfl rfl rfl rfl ?_
    refine bk_X10_isIn_0 ?_
    show pm_Ex ro m_X10_gameOf 65 [.ref 33, .int x1, .int x2, .int x3, .int x4, .int x5, .int x6, .int x7, .int x8, .int x9, .int x10, d11, d12] [.int (zb (¬ (¬ ((x2 >>> (x10 &&& 31)) &&& 1) = 1)))] mem Q
    refine ex_br (P := (zb (¬ (¬ ((x2 >>> (x10 &&& 31)) &&& 1) = 1))) = 0) (a := 147) (b := 68) (ls' := [.ref 33, .int x1, .int x2, .int x3, .int x4, .int x5, .int x6, .int x7, .int x8, .int x9, .int x10, d11, d12]) (st' := []) (mem' := mem) hS hC rfl (fun h => ?_) (fun h => ?_)
    · replace k := k.2 (zb0 h)
      refine ex_many (pc' := 52) (ls' := [.ref 33, .int x1, .int x2, .int x3, .int x4, .int x5, .int x6, .int x7, .int x8, .int x9, .int (x10 + 1), d11, d12]) (st' := []) (mem' := mem) hS hC 2 rfl ?_
      exact k
    · replace k := k.1 (zb1 h)
      refine ex_many (pc' := 79) (ls' := [.ref 33, .int x1, .int x2, .int x3, .int x4, .int x5, .int x6, .int x7, .int x8, .int x9, .int x10, d11, d12]) (st' := [.int x3, .int (1 - x7), .int (x6 + x10), .ref 33]) (mem' := mem) hS hC 8 rfl ?_
      refine ex_call (y' := m_X10_value) (rest := []) (ent := [.ref 33, .int (x6 + x10), .int (1 - x7), .int x3]) hS hC rfl rfl rfl rfl rfl rfl ?_
      exact k

set_option maxRecDepth 20000 in
theorem bk_X10_gameOf_15 {ro : pm_RO} {Q : Option Value → pm_M → Prop} {mem : pm_M} {x1 x2 x3 x4 s0 : Int32} (k : Q (some (.int s0)) mem) : pm_Ex ro m_X10_gameOf 15 [.ref 33, .int x1, .int x2, .int x3, .int x4, .null, .null, .null, .null, .null, .null, .null, .null] [.int s0] mem Q := by
  have hS : pm_sig[m_X10_gameOf]? = some _ := rfl
  have hC : pm_cod[m_X10_gameOf]? = some _ := rfl
  refine ex_many (pc' := 19) (ls' := [.ref 33, .int x1, .int x2, .int x3, .int x4, .null, .null, .null, .null, .null, .null, .null, .null]) (st' := [.int s0]) (mem' := mem) hS hC 1 rfl ?_
  exact ex_ret (v := (some (.int s0))) hS hC rfl rfl rfl k

set_option maxRecDepth 20000 in
theorem bk_X10_gameOf_82 {ro : pm_RO} {Q : Option Value → pm_M → Prop} {mem : pm_M} {x1 x2 x3 x4 x5 x6 x7 x8 x9 x10 s0 : Int32} {d11 d12 : Value} (k : pm_Ex ro m_X10_gameOf 52 [.ref 33, .int x1, .int x2, .int x3, .int x4, .int x5, .int x6, .int x7, .int (if (if x8 = (-1) then 1 else (if ¬ x7 = 0 then zb (¬ (s0 ≤ x8)) else zb (¬ (x8 ≤ s0)) : Int32) : Int32) = 0 then x8 else s0 : Int32), .int (if (if x8 = (-1) then 1 else (if ¬ x7 = 0 then zb (¬ (s0 ≤ x8)) else zb (¬ (x8 ≤ s0)) : Int32) : Int32) = 0 then x9 else x10 : Int32), .int (x10 + 1), .int s0, .int (if x8 = (-1) then 1 else (if ¬ x7 = 0 then zb (¬ (s0 ≤ x8)) else zb (¬ (x8 ≤ s0)) : Int32) : Int32)] [] mem Q) : pm_Ex ro m_X10_gameOf 82 [.ref 33, .int x1, .int x2, .int x3, .int x4, .int x5, .int x6, .int x7, .int x8, .int x9, .int x10, d11, d12] [.int s0] mem Q := by
  have hS : pm_sig[m_X10_gameOf]? = some _ := rfl
  have hC : pm_cod[m_X10_gameOf]? = some _ := rfl
  refine ex_many (pc' := 87) (ls' := [.ref 33, .int x1, .int x2, .int x3, .int x4, .int x5, .int x6, .int x7, .int x8, .int x9, .int x10, .int s0, d12]) (st' := [.int (-1), .int x8]) (mem' := mem) hS hC 3 rfl ?_
  have kp60 : pm_Ex ro m_X10_gameOf 117 [.ref 33, .int x1, .int x2, .int x3, .int x4, .int x5, .int x6, .int x7, .int x8, .int x9, .int x10, .int s0, d12] [.int (if x8 = (-1) then 1 else (if ¬ x7 = 0 then zb (¬ (s0 ≤ x8)) else zb (¬ (x8 ≤ s0)) : Int32) : Int32)] mem Q := by
    refine ex_many (pc' := 121) (ls' := [.ref 33, .int x1, .int x2, .int x3, .int x4, .int x5, .int x6, .int x7, .int x8, .int x9, .int x10, .int s0, .int (if x8 = (-1) then 1 else (if ¬ x7 = 0 then zb (¬ (s0 ≤ x8)) else zb (¬ (x8 ≤ s0)) : Int32) : Int32)]) (st' := [.int (if x8 = (-1) then 1 else (if ¬ x7 = 0 then zb (¬ (s0 ≤ x8)) else zb (¬ (x8 ≤ s0)) : Int32) : Int32)]) (mem' := mem) hS hC 2 rfl ?_
    have kp59 : pm_Ex ro m_X10_gameOf 131 [.ref 33, .int x1, .int x2, .int x3, .int x4, .int x5, .int x6, .int x7, .int x8, .int x9, .int x10, .int s0, .int (if x8 = (-1) then 1 else (if ¬ x7 = 0 then zb (¬ (s0 ≤ x8)) else zb (¬ (x8 ≤ s0)) : Int32) : Int32)] [.int (if (if x8 = (-1) then 1 else (if ¬ x7 = 0 then zb (¬ (s0 ≤ x8)) else zb (¬ (x8 ≤ s0)) : Int32) : Int32) = 0 then x9 else x10 : Int32)] mem Q := by
      refine ex_many (pc' := 135) (ls' := [.ref 33, .int x1, .int x2, .int x3, .int x4, .int x5, .int x6, .int x7, .int x8, .int (if (if x8 = (-1) then 1 else (if ¬ x7 = 0 then zb (¬ (s0 ≤ x8)) else zb (¬ (x8 ≤ s0)) : Int32) : Int32) = 0 then x9 else x10 : Int32), .int x10, .int s0, .int (if x8 = (-1) then 1 else (if ¬ x7 = 0 then zb (¬ (s0 ≤ x8)) else zb (¬ (x8 ≤ s0)) : Int32) : Int32)]) (st' := [.int (if x8 = (-1) then 1 else (if ¬ x7 = 0 then zb (¬ (s0 ≤ x8)) else zb (¬ (x8 ≤ s0)) : Int32) : Int32)]) (mem' := mem) hS hC 2 rfl ?_
      have kp58 : pm_Ex ro m_X10_gameOf 145 [.ref 33, .int x1, .int x2, .int x3, .int x4, .int x5, .int x6, .int x7, .int x8, .int (if (if x8 = (-1) then 1 else (if ¬ x7 = 0 then zb (¬ (s0 ≤ x8)) else zb (¬ (x8 ≤ s0)) : Int32) : Int32) = 0 then x9 else x10 : Int32), .int x10, .int s0, .int (if x8 = (-1) then 1 else (if ¬ x7 = 0 then zb (¬ (s0 ≤ x8)) else zb (¬ (x8 ≤ s0)) : Int32) : Int32)] [.int (if (if x8 = (-1) then 1 else (if ¬ x7 = 0 then zb (¬ (s0 ≤ x8)) else zb (¬ (x8 ≤ s0)) : Int32) : Int32) = 0 then x8 else s0 : Int32)] mem Q := by
        refine ex_many (pc' := 52) (ls' := [.ref 33, .int x1, .int x2, .int x3, .int x4, .int x5, .int x6, .int x7, .int (if (if x8 = (-1) then 1 else (if ¬ x7 = 0 then zb (¬ (s0 ≤ x8)) else zb (¬ (x8 ≤ s0)) : Int32) : Int32) = 0 then x8 else s0 : Int32), .int (if (if x8 = (-1) then 1 else (if ¬ x7 = 0 then zb (¬ (s0 ≤ x8)) else zb (¬ (x8 ≤ s0)) : Int32) : Int32) = 0 then x9 else x10 : Int32), .int (x10 + 1), .int s0, .int (if x8 = (-1) then 1 else (if ¬ x7 = 0 then zb (¬ (s0 ≤ x8)) else zb (¬ (x8 ≤ s0)) : Int32) : Int32)]) (st' := []) (mem' := mem) hS hC 3 rfl ?_
        exact k
      refine ex_br (P := (if x8 = (-1) then 1 else (if ¬ x7 = 0 then zb (¬ (s0 ≤ x8)) else zb (¬ (x8 ≤ s0)) : Int32) : Int32) = 0) (a := 143) (b := 138) (ls' := [.ref 33, .int x1, .int x2, .int x3, .int x4, .int x5, .int x6, .int x7, .int x8, .int (if (if x8 = (-1) then 1 else (if ¬ x7 = 0 then zb (¬ (s0 ≤ x8)) else zb (¬ (x8 ≤ s0)) : Int32) : Int32) = 0 then x9 else x10 : Int32), .int x10, .int s0, .int (if x8 = (-1) then 1 else (if ¬ x7 = 0 then zb (¬ (s0 ≤ x8)) else zb (¬ (x8 ≤ s0)) : Int32) : Int32)]) (st' := []) (mem' := mem) hS hC rfl (fun h => ?_) (fun h => ?_)
      · have kp58a : pm_Ex ro m_X10_gameOf 145 [.ref 33, .int x1, .int x2, .int x3, .int x4, .int x5, .int x6, .int x7, .int x8, .int (if (if x8 = (-1) then 1 else (if ¬ x7 = 0 then zb (¬ (s0 ≤ x8)) else zb (¬ (x8 ≤ s0)) : Int32) : Int32) = 0 then x9 else x10 : Int32), .int x10, .int s0, .int (if x8 = (-1) then 1 else (if ¬ x7 = 0 then zb (¬ (s0 ≤ x8)) else zb (¬ (x8 ≤ s0)) : Int32) : Int32)] [.int x8] mem Q := pm_phi1 (f := fun z0 => pm_Ex ro m_X10_gameOf 145 [.ref 33, .int x1, .int x2, .int x3, .int x4, .int x5, .int x6, .int x7, .int x8, .int (if (if x8 = (-1) then 1 else (if ¬ x7 = 0 then zb (¬ (s0 ≤ x8)) else zb (¬ (x8 ≤ s0)) : Int32) : Int32) = 0 then x9 else x10 : Int32), .int x10, .int s0, .int (if x8 = (-1) then 1 else (if ¬ x7 = 0 then zb (¬ (s0 ≤ x8)) else zb (¬ (x8 ≤ s0)) : Int32) : Int32)] [.int z0] mem Q) (if_pos (h)) kp58
        refine ex_many (pc' := 145) (ls' := [.ref 33, .int x1, .int x2, .int x3, .int x4, .int x5, .int x6, .int x7, .int x8, .int (if (if x8 = (-1) then 1 else (if ¬ x7 = 0 then zb (¬ (s0 ≤ x8)) else zb (¬ (x8 ≤ s0)) : Int32) : Int32) = 0 then x9 else x10 : Int32), .int x10, .int s0, .int (if x8 = (-1) then 1 else (if ¬ x7 = 0 then zb (¬ (s0 ≤ x8)) else zb (¬ (x8 ≤ s0)) : Int32) : Int32)]) (st' := [.int x8]) (mem' := mem) hS hC 1 rfl ?_
        exact kp58a
      · have kp58b : pm_Ex ro m_X10_gameOf 145 [.ref 33, .int x1, .int x2, .int x3, .int x4, .int x5, .int x6, .int x7, .int x8, .int (if (if x8 = (-1) then 1 else (if ¬ x7 = 0 then zb (¬ (s0 ≤ x8)) else zb (¬ (x8 ≤ s0)) : Int32) : Int32) = 0 then x9 else x10 : Int32), .int x10, .int s0, .int (if x8 = (-1) then 1 else (if ¬ x7 = 0 then zb (¬ (s0 ≤ x8)) else zb (¬ (x8 ≤ s0)) : Int32) : Int32)] [.int s0] mem Q := pm_phi1 (f := fun z0 => pm_Ex ro m_X10_gameOf 145 [.ref 33, .int x1, .int x2, .int x3, .int x4, .int x5, .int x6, .int x7, .int x8, .int (if (if x8 = (-1) then 1 else (if ¬ x7 = 0 then zb (¬ (s0 ≤ x8)) else zb (¬ (x8 ≤ s0)) : Int32) : Int32) = 0 then x9 else x10 : Int32), .int x10, .int s0, .int (if x8 = (-1) then 1 else (if ¬ x7 = 0 then zb (¬ (s0 ≤ x8)) else zb (¬ (x8 ≤ s0)) : Int32) : Int32)] [.int z0] mem Q) (if_neg (h)) kp58
        refine ex_many (pc' := 145) (ls' := [.ref 33, .int x1, .int x2, .int x3, .int x4, .int x5, .int x6, .int x7, .int x8, .int (if (if x8 = (-1) then 1 else (if ¬ x7 = 0 then zb (¬ (s0 ≤ x8)) else zb (¬ (x8 ≤ s0)) : Int32) : Int32) = 0 then x9 else x10 : Int32), .int x10, .int s0, .int (if x8 = (-1) then 1 else (if ¬ x7 = 0 then zb (¬ (s0 ≤ x8)) else zb (¬ (x8 ≤ s0)) : Int32) : Int32)]) (st' := [.int s0]) (mem' := mem) hS hC 2 rfl ?_
        exact kp58b
    refine ex_br (P := (if x8 = (-1) then 1 else (if ¬ x7 = 0 then zb (¬ (s0 ≤ x8)) else zb (¬ (x8 ≤ s0)) : Int32) : Int32) = 0) (a := 129) (b := 124) (ls' := [.ref 33, .int x1, .int x2, .int x3, .int x4, .int x5, .int x6, .int x7, .int x8, .int x9, .int x10, .int s0, .int (if x8 = (-1) then 1 else (if ¬ x7 = 0 then zb (¬ (s0 ≤ x8)) else zb (¬ (x8 ≤ s0)) : Int32) : Int32)]) (st' := []) (mem' := mem) hS hC rfl (fun h => ?_) (fun h => ?_)
    · have kp59a : pm_Ex ro m_X10_gameOf 131 [.ref 33, .int x1, .int x2, .int x3, .int x4, .int x5, .int x6, .int x7, .int x8, .int x9, .int x10, .int s0, .int (if x8 = (-1) then 1 else (if ¬ x7 = 0 then zb (¬ (s0 ≤ x8)) else zb (¬ (x8 ≤ s0)) : Int32) : Int32)] [.int x9] mem Q := pm_phi1 (f := fun z0 => pm_Ex ro m_X10_gameOf 131 [.ref 33, .int x1, .int x2, .int x3, .int x4, .int x5, .int x6, .int x7, .int x8, .int x9, .int x10, .int s0, .int (if x8 = (-1) then 1 else (if ¬ x7 = 0 then zb (¬ (s0 ≤ x8)) else zb (¬ (x8 ≤ s0)) : Int32) : Int32)] [.int z0] mem Q) (if_pos (h)) kp59
      refine ex_many (pc' := 131) (ls' := [.ref 33, .int x1, .int x2, .int x3, .int x4, .int x5, .int x6, .int x7, .int x8, .int x9, .int x10, .int s0, .int (if x8 = (-1) then 1 else (if ¬ x7 = 0 then zb (¬ (s0 ≤ x8)) else zb (¬ (x8 ≤ s0)) : Int32) : Int32)]) (st' := [.int x9]) (mem' := mem) hS hC 1 rfl ?_
      exact kp59a
    · have kp59b : pm_Ex ro m_X10_gameOf 131 [.ref 33, .int x1, .int x2, .int x3, .int x4, .int x5, .int x6, .int x7, .int x8, .int x9, .int x10, .int s0, .int (if x8 = (-1) then 1 else (if ¬ x7 = 0 then zb (¬ (s0 ≤ x8)) else zb (¬ (x8 ≤ s0)) : Int32) : Int32)] [.int x10] mem Q := pm_phi1 (f := fun z0 => pm_Ex ro m_X10_gameOf 131 [.ref 33, .int x1, .int x2, .int x3, .int x4, .int x5, .int x6, .int x7, .int x8, .int x9, .int x10, .int s0, .int (if x8 = (-1) then 1 else (if ¬ x7 = 0 then zb (¬ (s0 ≤ x8)) else zb (¬ (x8 ≤ s0)) : Int32) : Int32)] [.int z0] mem Q) (if_neg (h)) kp59
      refine ex_many (pc' := 131) (ls' := [.ref 33, .int x1, .int x2, .int x3, .int x4, .int x5, .int x6, .int x7, .int x8, .int x9, .int x10, .int s0, .int (if x8 = (-1) then 1 else (if ¬ x7 = 0 then zb (¬ (s0 ≤ x8)) else zb (¬ (x8 ≤ s0)) : Int32) : Int32)]) (st' := [.int x10]) (mem' := mem) hS hC 2 rfl ?_
      exact kp59b
  refine ex_br (P := x8 = (-1)) (a := 112) (b := 90) (ls' := [.ref 33, .int x1, .int x2, .int x3, .int x4, .int x5, .int x6, .int x7, .int x8, .int x9, .int x10, .int s0, d12]) (st' := []) (mem' := mem) hS hC rfl (fun h => ?_) (fun h => ?_)
  · have kp60a : pm_Ex ro m_X10_gameOf 117 [.ref 33, .int x1, .int x2, .int x3, .int x4, .int x5, .int x6, .int x7, .int x8, .int x9, .int x10, .int s0, d12] [.int 1] mem Q := pm_phi1 (f := fun z0 => pm_Ex ro m_X10_gameOf 117 [.ref 33, .int x1, .int x2, .int x3, .int x4, .int x5, .int x6, .int x7, .int x8, .int x9, .int x10, .int s0, d12] [.int z0] mem Q) (if_pos (h)) kp60
    refine ex_many (pc' := 117) (ls' := [.ref 33, .int x1, .int x2, .int x3, .int x4, .int x5, .int x6, .int x7, .int x8, .int x9, .int x10, .int s0, d12]) (st' := [.int 1]) (mem' := mem) hS hC 2 rfl ?_
    exact kp60a
  · have kp60b : pm_Ex ro m_X10_gameOf 117 [.ref 33, .int x1, .int x2, .int x3, .int x4, .int x5, .int x6, .int x7, .int x8, .int x9, .int x10, .int s0, d12] [.int (if ¬ x7 = 0 then zb (¬ (s0 ≤ x8)) else zb (¬ (x8 ≤ s0)) : Int32)] mem Q := pm_phi1 (f := fun z0 => pm_Ex ro m_X10_gameOf 117 [.ref 33, .int x1, .int x2, .int x3, .int x4, .int x5, .int x6, .int x7, .int x8, .int x9, .int x10, .int s0, d12] [.int z0] mem Q) (if_neg (h)) kp60
    have kp57 : pm_Ex ro m_X10_gameOf 117 [.ref 33, .int x1, .int x2, .int x3, .int x4, .int x5, .int x6, .int x7, .int x8, .int x9, .int x10, .int s0, d12] [.int (if ¬ x7 = 0 then zb (¬ (s0 ≤ x8)) else zb (¬ (x8 ≤ s0)) : Int32)] mem Q := by
      exact kp60b
    refine ex_many (pc' := 92) (ls' := [.ref 33, .int x1, .int x2, .int x3, .int x4, .int x5, .int x6, .int x7, .int x8, .int x9, .int x10, .int s0, d12]) (st' := [.int x7]) (mem' := mem) hS hC 1 rfl ?_
    refine ex_br (P := ¬ x7 = 0) (a := 105) (b := 95) (ls' := [.ref 33, .int x1, .int x2, .int x3, .int x4, .int x5, .int x6, .int x7, .int x8, .int x9, .int x10, .int s0, d12]) (st' := []) (mem' := mem) hS hC rfl (fun h => ?_) (fun h => ?_)
    · have kp57a : pm_Ex ro m_X10_gameOf 117 [.ref 33, .int x1, .int x2, .int x3, .int x4, .int x5, .int x6, .int x7, .int x8, .int x9, .int x10, .int s0, d12] [.int (zb (¬ (s0 ≤ x8)))] mem Q := pm_phi1 (f := fun z0 => pm_Ex ro m_X10_gameOf 117 [.ref 33, .int x1, .int x2, .int x3, .int x4, .int x5, .int x6, .int x7, .int x8, .int x9, .int x10, .int s0, d12] [.int z0] mem Q) (if_pos (h)) kp57
      have kp55 : pm_Ex ro m_X10_gameOf 117 [.ref 33, .int x1, .int x2, .int x3, .int x4, .int x5, .int x6, .int x7, .int x8, .int x9, .int x10, .int s0, d12] [.int (zb (¬ (s0 ≤ x8)))] mem Q := by
        exact kp57a
      refine ex_many (pc' := 109) (ls' := [.ref 33, .int x1, .int x2, .int x3, .int x4, .int x5, .int x6, .int x7, .int x8, .int x9, .int x10, .int s0, d12]) (st' := [.int x8, .int s0]) (mem' := mem) hS hC 2 rfl ?_
      refine ex_br (P := s0 ≤ x8) (a := 116) (b := 112) (ls' := [.ref 33, .int x1, .int x2, .int x3, .int x4, .int x5, .int x6, .int x7, .int x8, .int x9, .int x10, .int s0, d12]) (st' := []) (mem' := mem) hS hC rfl (fun h => ?_) (fun h => ?_)
      · have kp55a : pm_Ex ro m_X10_gameOf 117 [.ref 33, .int x1, .int x2, .int x3, .int x4, .int x5, .int x6, .int x7, .int x8, .int x9, .int x10, .int s0, d12] [.int 0] mem Q := pm_phi1 (f := fun z0 => pm_Ex ro m_X10_gameOf 117 [.ref 33, .int x1, .int x2, .int x3, .int x4, .int x5, .int x6, .int x7, .int x8, .int x9, .int x10, .int s0, d12] [.int z0] mem Q) (zb_npos (h)) kp55
        refine ex_many (pc' := 117) (ls' := [.ref 33, .int x1, .int x2, .int x3, .int x4, .int x5, .int x6, .int x7, .int x8, .int x9, .int x10, .int s0, d12]) (st' := [.int 0]) (mem' := mem) hS hC 1 rfl ?_
        exact kp55a
      · have kp55b : pm_Ex ro m_X10_gameOf 117 [.ref 33, .int x1, .int x2, .int x3, .int x4, .int x5, .int x6, .int x7, .int x8, .int x9, .int x10, .int s0, d12] [.int 1] mem Q := pm_phi1 (f := fun z0 => pm_Ex ro m_X10_gameOf 117 [.ref 33, .int x1, .int x2, .int x3, .int x4, .int x5, .int x6, .int x7, .int x8, .int x9, .int x10, .int s0, d12] [.int z0] mem Q) (zb_nneg (h)) kp55
        refine ex_many (pc' := 117) (ls' := [.ref 33, .int x1, .int x2, .int x3, .int x4, .int x5, .int x6, .int x7, .int x8, .int x9, .int x10, .int s0, d12]) (st' := [.int 1]) (mem' := mem) hS hC 2 rfl ?_
        exact kp55b
    · have kp57b : pm_Ex ro m_X10_gameOf 117 [.ref 33, .int x1, .int x2, .int x3, .int x4, .int x5, .int x6, .int x7, .int x8, .int x9, .int x10, .int s0, d12] [.int (zb (¬ (x8 ≤ s0)))] mem Q := pm_phi1 (f := fun z0 => pm_Ex ro m_X10_gameOf 117 [.ref 33, .int x1, .int x2, .int x3, .int x4, .int x5, .int x6, .int x7, .int x8, .int x9, .int x10, .int s0, d12] [.int z0] mem Q) (if_neg (h)) kp57
      have kp56 : pm_Ex ro m_X10_gameOf 117 [.ref 33, .int x1, .int x2, .int x3, .int x4, .int x5, .int x6, .int x7, .int x8, .int x9, .int x10, .int s0, d12] [.int (zb (¬ (x8 ≤ s0)))] mem Q := by
        exact kp57b
      refine ex_many (pc' := 99) (ls' := [.ref 33, .int x1, .int x2, .int x3, .int x4, .int x5, .int x6, .int x7, .int x8, .int x9, .int x10, .int s0, d12]) (st' := [.int x8, .int s0]) (mem' := mem) hS hC 2 rfl ?_
      refine ex_br (P := x8 ≤ s0) (a := 116) (b := 102) (ls' := [.ref 33, .int x1, .int x2, .int x3, .int x4, .int x5, .int x6, .int x7, .int x8, .int x9, .int x10, .int s0, d12]) (st' := []) (mem' := mem) hS hC rfl (fun h => ?_) (fun h => ?_)
      · have kp56a : pm_Ex ro m_X10_gameOf 117 [.ref 33, .int x1, .int x2, .int x3, .int x4, .int x5, .int x6, .int x7, .int x8, .int x9, .int x10, .int s0, d12] [.int 0] mem Q := pm_phi1 (f := fun z0 => pm_Ex ro m_X10_gameOf 117 [.ref 33, .int x1, .int x2, .int x3, .int x4, .int x5, .int x6, .int x7, .int x8, .int x9, .int x10, .int s0, d12] [.int z0] mem Q) (zb_npos (h)) kp56
        refine ex_many (pc' := 117) (ls' := [.ref 33, .int x1, .int x2, .int x3, .int x4, .int x5, .int x6, .int x7, .int x8, .int x9, .int x10, .int s0, d12]) (st' := [.int 0]) (mem' := mem) hS hC 1 rfl ?_
        exact kp56a
      · have kp56b : pm_Ex ro m_X10_gameOf 117 [.ref 33, .int x1, .int x2, .int x3, .int x4, .int x5, .int x6, .int x7, .int x8, .int x9, .int x10, .int s0, d12] [.int 1] mem Q := pm_phi1 (f := fun z0 => pm_Ex ro m_X10_gameOf 117 [.ref 33, .int x1, .int x2, .int x3, .int x4, .int x5, .int x6, .int x7, .int x8, .int x9, .int x10, .int s0, d12] [.int z0] mem Q) (zb_nneg (h)) kp56
        refine ex_many (pc' := 117) (ls' := [.ref 33, .int x1, .int x2, .int x3, .int x4, .int x5, .int x6, .int x7, .int x8, .int x9, .int x10, .int s0, d12]) (st' := [.int 1]) (mem' := mem) hS hC 3 rfl ?_
        exact kp56b

set_option maxRecDepth 20000 in
theorem bk_X10_game_0 {ro : pm_RO} {Q : Option Value → pm_M → Prop} {mem : pm_M} {a1 a2 a3 a4 : Int32} (k : (0 ≤ a1 ∧ a1 ≤ 200 → (2 ≤ a2 ∧ a2 ≤ 1022 → (¬ (a2 - a2 / 2 * 2) = 0 → (0 = 0 → Q (some (.int (-2))) mem) ∧ (¬ (0 = 0) → pm_Ex ro m_X10_gameOf 0 [.ref 33, .int a1, .int a2, .int a3, .int a4, .null, .null, .null, .null, .null, .null, .null, .null] [] mem (fun v m => pm_Ex ro m_X10_game 73 [.ref 33, .int a1, .int a2, .int a3, .int a4, .int 0] (v.toList ++ []) m Q))) ∧ (¬ (¬ (a2 - a2 / 2 * 2) = 0) → (1 ≤ a3 ∧ a3 ≤ 200 → (0 ≤ a4 ∧ a4 ≤ 1 → pm_Ex ro m_X10_gameOf 0 [.ref 33, .int a1, .int a2, .int a3, .int a4, .null, .null, .null, .null, .null, .null, .null, .null] [] mem (fun v m => pm_Ex ro m_X10_game 73 [.ref 33, .int a1, .int a2, .int a3, .int a4, .int (zb (0 ≤ a4 ∧ a4 ≤ 1))] (v.toList ++ []) m Q)) ∧ (¬ (0 ≤ a4 ∧ a4 ≤ 1) → Q (some (.int (-2))) mem)) ∧ (¬ (1 ≤ a3 ∧ a3 ≤ 200) → (0 = 0 → Q (some (.int (-2))) mem) ∧ (¬ (0 = 0) → pm_Ex ro m_X10_gameOf 0 [.ref 33, .int a1, .int a2, .int a3, .int a4, .null, .null, .null, .null, .null, .null, .null, .null] [] mem (fun v m => pm_Ex ro m_X10_game 73 [.ref 33, .int a1, .int a2, .int a3, .int a4, .int 0] (v.toList ++ []) m Q))))) ∧ (¬ (2 ≤ a2 ∧ a2 ≤ 1022) → (0 = 0 → Q (some (.int (-2))) mem) ∧ (¬ (0 = 0) → pm_Ex ro m_X10_gameOf 0 [.ref 33, .int a1, .int a2, .int a3, .int a4, .null, .null, .null, .null, .null, .null, .null, .null] [] mem (fun v m => pm_Ex ro m_X10_game 73 [.ref 33, .int a1, .int a2, .int a3, .int a4, .int 0] (v.toList ++ []) m Q)))) ∧ (¬ (0 ≤ a1 ∧ a1 ≤ 200) → (0 = 0 → Q (some (.int (-2))) mem) ∧ (¬ (0 = 0) → pm_Ex ro m_X10_gameOf 0 [.ref 33, .int a1, .int a2, .int a3, .int a4, .null, .null, .null, .null, .null, .null, .null, .null] [] mem (fun v m => pm_Ex ro m_X10_game 73 [.ref 33, .int a1, .int a2, .int a3, .int a4, .int 0] (v.toList ++ []) m Q)))) : pm_Ex ro m_X10_game 0 [.ref 33, .int a1, .int a2, .int a3, .int a4, .null] [] mem Q := by
  have hS : pm_sig[m_X10_game]? = some _ := rfl
  have hC : pm_cod[m_X10_game]? = some _ := rfl
  refine ex_many (pc' := 6) (ls' := [.ref 33, .int a1, .int a2, .int a3, .int a4, .null]) (st' := [.long 200, .long 0, .long a1.toInt64]) (mem' := mem) hS hC 4 rfl ?_
  refine ex_call (y' := m_X10_in) (rest := []) (ent := [.long a1.toInt64, .null, .long 0, .null, .long 200, .null]) hS hC rfl rfl rfl rfl rfl rfl ?_
  refine sp_in32 (v := a1) (lo := 0) (hi := 200) (by decide) (by decide) ?_
  show pm_Ex ro m_X10_game 9 [.ref 33, .int a1, .int a2, .int a3, .int a4, .null] [.int (zb (0 ≤ a1 ∧ a1 ≤ 200))] mem Q
  refine ex_br (P := (zb (0 ≤ a1 ∧ a1 ≤ 200)) = 0) (a := 56) (b := 12) (ls' := [.ref 33, .int a1, .int a2, .int a3, .int a4, .null]) (st' := []) (mem' := mem) hS hC rfl (fun h => ?_) (fun h => ?_)
  · replace k := k.2 (zb0 h)
    refine ex_many (pc' := 61) (ls' := [.ref 33, .int a1, .int a2, .int a3, .int a4, .int 0]) (st' := [.int 0]) (mem' := mem) hS hC 3 rfl ?_
    refine ex_br (P := 0 = 0) (a := 76) (b := 64) (ls' := [.ref 33, .int a1, .int a2, .int a3, .int a4, .int 0]) (st' := []) (mem' := mem) hS hC rfl (fun h => ?_) (fun h => ?_)
    · replace k := k.1 (h)
      refine ex_many (pc' := 78) (ls' := [.ref 33, .int a1, .int a2, .int a3, .int a4, .int 0]) (st' := [.int (-2)]) (mem' := mem) hS hC 1 rfl ?_
      exact ex_ret (v := (some (.int (-2)))) hS hC rfl rfl rfl k
    · replace k := k.2 (h)
      refine ex_many (pc' := 70) (ls' := [.ref 33, .int a1, .int a2, .int a3, .int a4, .int 0]) (st' := [.int a4, .int a3, .int a2, .int a1, .ref 33]) (mem' := mem) hS hC 5 rfl ?_
      refine ex_call (y' := m_X10_gameOf) (rest := []) (ent := [.ref 33, .int a1, .int a2, .int a3, .int a4, .null, .null, .null, .null, .null, .null, .null, .null]) hS hC rfl rfl rfl rfl rfl rfl ?_
      exact k
  · replace k := k.1 (zb1 h)
    refine ex_many (pc' := 20) (ls' := [.ref 33, .int a1, .int a2, .int a3, .int a4, .null]) (st' := [.long 1022, .long 2, .long a2.toInt64]) (mem' := mem) hS hC 4 rfl ?_
    refine ex_call (y' := m_X10_in) (rest := []) (ent := [.long a2.toInt64, .null, .long 2, .null, .long 1022, .null]) hS hC rfl rfl rfl rfl rfl rfl ?_
    refine sp_in32 (v := a2) (lo := 2) (hi := 1022) (by decide) (by decide) ?_
    show pm_Ex ro m_X10_game 23 [.ref 33, .int a1, .int a2, .int a3, .int a4, .null] [.int (zb (2 ≤ a2 ∧ a2 ≤ 1022))] mem Q
    refine ex_br (P := (zb (2 ≤ a2 ∧ a2 ≤ 1022)) = 0) (a := 56) (b := 26) (ls' := [.ref 33, .int a1, .int a2, .int a3, .int a4, .null]) (st' := []) (mem' := mem) hS hC rfl (fun h => ?_) (fun h => ?_)
    · replace k := k.2 (zb0 h)
      refine ex_many (pc' := 61) (ls' := [.ref 33, .int a1, .int a2, .int a3, .int a4, .int 0]) (st' := [.int 0]) (mem' := mem) hS hC 3 rfl ?_
      refine ex_br (P := 0 = 0) (a := 76) (b := 64) (ls' := [.ref 33, .int a1, .int a2, .int a3, .int a4, .int 0]) (st' := []) (mem' := mem) hS hC rfl (fun h => ?_) (fun h => ?_)
      · replace k := k.1 (h)
        refine ex_many (pc' := 78) (ls' := [.ref 33, .int a1, .int a2, .int a3, .int a4, .int 0]) (st' := [.int (-2)]) (mem' := mem) hS hC 1 rfl ?_
        exact ex_ret (v := (some (.int (-2)))) hS hC rfl rfl rfl k
      · replace k := k.2 (h)
        refine ex_many (pc' := 70) (ls' := [.ref 33, .int a1, .int a2, .int a3, .int a4, .int 0]) (st' := [.int a4, .int a3, .int a2, .int a1, .ref 33]) (mem' := mem) hS hC 5 rfl ?_
        refine ex_call (y' := m_X10_gameOf) (rest := []) (ent := [.ref 33, .int a1, .int a2, .int a3, .int a4, .null, .null, .null, .null, .null, .null, .null, .null]) hS hC rfl rfl rfl rfl rfl rfl ?_
        exact k
    · replace k := k.1 (zb1 h)
      refine ex_many (pc' := 29) (ls' := [.ref 33, .int a1, .int a2, .int a3, .int a4, .null]) (st' := [.int (a2 - a2 / 2 * 2)]) (mem' := mem) hS hC 3 rfl ?_
      refine ex_br (P := ¬ (a2 - a2 / 2 * 2) = 0) (a := 56) (b := 32) (ls' := [.ref 33, .int a1, .int a2, .int a3, .int a4, .null]) (st' := []) (mem' := mem) hS hC rfl (fun h => ?_) (fun h => ?_)
      · replace k := k.1 (h)
        refine ex_many (pc' := 61) (ls' := [.ref 33, .int a1, .int a2, .int a3, .int a4, .int 0]) (st' := [.int 0]) (mem' := mem) hS hC 3 rfl ?_
        refine ex_br (P := 0 = 0) (a := 76) (b := 64) (ls' := [.ref 33, .int a1, .int a2, .int a3, .int a4, .int 0]) (st' := []) (mem' := mem) hS hC rfl (fun h => ?_) (fun h => ?_)
        · replace k := k.1 (h)
          refine ex_many (pc' := 78) (ls' := [.ref 33, .int a1, .int a2, .int a3, .int a4, .int 0]) (st' := [.int (-2)]) (mem' := mem) hS hC 1 rfl ?_
          exact ex_ret (v := (some (.int (-2)))) hS hC rfl rfl rfl k
        · replace k := k.2 (h)
          refine ex_many (pc' := 70) (ls' := [.ref 33, .int a1, .int a2, .int a3, .int a4, .int 0]) (st' := [.int a4, .int a3, .int a2, .int a1, .ref 33]) (mem' := mem) hS hC 5 rfl ?_
          refine ex_call (y' := m_X10_gameOf) (rest := []) (ent := [.ref 33, .int a1, .int a2, .int a3, .int a4, .null, .null, .null, .null, .null, .null, .null, .null]) hS hC rfl rfl rfl rfl rfl rfl ?_
          exact k
      · replace k := k.2 (h)
        refine ex_many (pc' := 38) (ls' := [.ref 33, .int a1, .int a2, .int a3, .int a4, .null]) (st' := [.long 200, .long 1, .long a3.toInt64]) (mem' := mem) hS hC 4 rfl ?_
        refine ex_call (y' := m_X10_in) (rest := []) (ent := [.long a3.toInt64, .null, .long 1, .null, .long 200, .null]) hS hC rfl rfl rfl rfl rfl rfl ?_
        refine sp_in32 (v := a3) (lo := 1) (hi := 200) (by decide) (by decide) ?_
        show pm_Ex ro m_X10_game 41 [.ref 33, .int a1, .int a2, .int a3, .int a4, .null] [.int (zb (1 ≤ a3 ∧ a3 ≤ 200))] mem Q
        refine ex_br (P := (zb (1 ≤ a3 ∧ a3 ≤ 200)) = 0) (a := 56) (b := 44) (ls' := [.ref 33, .int a1, .int a2, .int a3, .int a4, .null]) (st' := []) (mem' := mem) hS hC rfl (fun h => ?_) (fun h => ?_)
        · replace k := k.2 (zb0 h)
          refine ex_many (pc' := 61) (ls' := [.ref 33, .int a1, .int a2, .int a3, .int a4, .int 0]) (st' := [.int 0]) (mem' := mem) hS hC 3 rfl ?_
          refine ex_br (P := 0 = 0) (a := 76) (b := 64) (ls' := [.ref 33, .int a1, .int a2, .int a3, .int a4, .int 0]) (st' := []) (mem' := mem) hS hC rfl (fun h => ?_) (fun h => ?_)
          · replace k := k.1 (h)
            refine ex_many (pc' := 78) (ls' := [.ref 33, .int a1, .int a2, .int a3, .int a4, .int 0]) (st' := [.int (-2)]) (mem' := mem) hS hC 1 rfl ?_
            exact ex_ret (v := (some (.int (-2)))) hS hC rfl rfl rfl k
          · replace k := k.2 (h)
            refine ex_many (pc' := 70) (ls' := [.ref 33, .int a1, .int a2, .int a3, .int a4, .int 0]) (st' := [.int a4, .int a3, .int a2, .int a1, .ref 33]) (mem' := mem) hS hC 5 rfl ?_
            refine ex_call (y' := m_X10_gameOf) (rest := []) (ent := [.ref 33, .int a1, .int a2, .int a3, .int a4, .null, .null, .null, .null, .null, .null, .null, .null]) hS hC rfl rfl rfl rfl rfl rfl ?_
            exact k
        · replace k := k.1 (zb1 h)
          refine ex_many (pc' := 46) (ls' := [.ref 33, .int a1, .int a2, .int a3, .int a4, .null]) (st' := [.int a4]) (mem' := mem) hS hC 1 rfl ?_
          refine ex_call (y' := m_X10_isTwo) (rest := []) (ent := [.int a4]) hS hC rfl rfl rfl rfl rfl rfl ?_
          refine bk_X10_isTwo_0 ?_
          show pm_Ex ro m_X10_game 49 [.ref 33, .int a1, .int a2, .int a3, .int a4, .null] [.int (zb (0 ≤ a4 ∧ a4 ≤ 1))] mem Q
          have kp61 : pm_Ex ro m_X10_game 57 [.ref 33, .int a1, .int a2, .int a3, .int a4, .null] [.int (zb (0 ≤ a4 ∧ a4 ≤ 1))] mem Q := by
            refine ex_many (pc' := 61) (ls' := [.ref 33, .int a1, .int a2, .int a3, .int a4, .int (zb (0 ≤ a4 ∧ a4 ≤ 1))]) (st' := [.int (zb (0 ≤ a4 ∧ a4 ≤ 1))]) (mem' := mem) hS hC 2 rfl ?_
            refine ex_br (P := (zb (0 ≤ a4 ∧ a4 ≤ 1)) = 0) (a := 76) (b := 64) (ls' := [.ref 33, .int a1, .int a2, .int a3, .int a4, .int (zb (0 ≤ a4 ∧ a4 ≤ 1))]) (st' := []) (mem' := mem) hS hC rfl (fun h => ?_) (fun h => ?_)
            · replace k := k.2 (zb0 h)
              refine ex_many (pc' := 78) (ls' := [.ref 33, .int a1, .int a2, .int a3, .int a4, .int (zb (0 ≤ a4 ∧ a4 ≤ 1))]) (st' := [.int (-2)]) (mem' := mem) hS hC 1 rfl ?_
              exact ex_ret (v := (some (.int (-2)))) hS hC rfl rfl rfl k
            · replace k := k.1 (zb1 h)
              refine ex_many (pc' := 70) (ls' := [.ref 33, .int a1, .int a2, .int a3, .int a4, .int (zb (0 ≤ a4 ∧ a4 ≤ 1))]) (st' := [.int a4, .int a3, .int a2, .int a1, .ref 33]) (mem' := mem) hS hC 5 rfl ?_
              refine ex_call (y' := m_X10_gameOf) (rest := []) (ent := [.ref 33, .int a1, .int a2, .int a3, .int a4, .null, .null, .null, .null, .null, .null, .null, .null]) hS hC rfl rfl rfl rfl rfl rfl ?_
              exact k
          refine ex_br (P := (zb (0 ≤ a4 ∧ a4 ≤ 1)) = 0) (a := 56) (b := 52) (ls' := [.ref 33, .int a1, .int a2, .int a3, .int a4, .null]) (st' := []) (mem' := mem) hS hC rfl (fun h => ?_) (fun h => ?_)
          · have kp61a : pm_Ex ro m_X10_game 57 [.ref 33, .int a1, .int a2, .int a3, .int a4, .null] [.int 0] mem Q := pm_phi1 (f := fun z0 => pm_Ex ro m_X10_game 57 [.ref 33, .int a1, .int a2, .int a3, .int a4, .null] [.int z0] mem Q) (zb_neg (zb0 h)) kp61
            refine ex_many (pc' := 57) (ls' := [.ref 33, .int a1, .int a2, .int a3, .int a4, .null]) (st' := [.int 0]) (mem' := mem) hS hC 1 rfl ?_
            exact kp61a
          · have kp61b : pm_Ex ro m_X10_game 57 [.ref 33, .int a1, .int a2, .int a3, .int a4, .null] [.int 1] mem Q := pm_phi1 (f := fun z0 => pm_Ex ro m_X10_game 57 [.ref 33, .int a1, .int a2, .int a3, .int a4, .null] [.int z0] mem Q) (zb_pos (zb1 h)) kp61
            refine ex_many (pc' := 57) (ls' := [.ref 33, .int a1, .int a2, .int a3, .int a4, .null]) (st' := [.int 1]) (mem' := mem) hS hC 2 rfl ?_
            exact kp61b

set_option maxRecDepth 20000 in
theorem bk_X10_game_73 {ro : pm_RO} {Q : Option Value → pm_M → Prop} {mem : pm_M} {x1 x2 x3 x4 x5 s0 : Int32} (k : Q (some (.int s0)) mem) : pm_Ex ro m_X10_game 73 [.ref 33, .int x1, .int x2, .int x3, .int x4, .int x5] [.int s0] mem Q := by
  have hS : pm_sig[m_X10_game]? = some _ := rfl
  have hC : pm_cod[m_X10_game]? = some _ := rfl
  refine ex_many (pc' := 78) (ls' := [.ref 33, .int x1, .int x2, .int x3, .int x4, .int x5]) (st' := [.int s0]) (mem' := mem) hS hC 1 rfl ?_
  exact ex_ret (v := (some (.int s0))) hS hC rfl rfl rfl k

set_option maxRecDepth 20000 in
theorem bk_X10_write_0 {ro : pm_RO} {Q : Option Value → pm_M → Prop} {mem : pm_M} {a1 a2 : Int32} (k : (0 ≤ a1 ∧ a1 ≤ 9999 → (0 ≤ a2 ∧ a2 ≤ 3 → (pm_inb a2 4 = true) ∧ ((0 ≤ (mem 34 a2.toNatClampNeg) → pm_Ex ro m_X10_write 40 [.ref 33, .int a1, .int a2, .int 1, .int 0, .int a1, .null] [] mem Q) ∧ (¬ (0 ≤ (mem 34 a2.toNatClampNeg)) → Q (some (.int ((-10) - (1 : Int32)))) (pm_up mem 33 4 (1 : Int32))))) ∧ (¬ (0 ≤ a2 ∧ a2 ≤ 3) → Q (some (.int (-2))) mem)) ∧ (¬ (0 ≤ a1 ∧ a1 ≤ 9999) → Q (some (.int (-2))) mem)) : pm_Ex ro m_X10_write 0 [.ref 33, .int a1, .int a2, .null, .null, .null, .null] [] mem Q := by
  have hS : pm_sig[m_X10_write]? = some _ := rfl
  have hC : pm_cod[m_X10_write]? = some _ := rfl
  refine ex_many (pc' := 1) (ls' := [.ref 33, .int a1, .int a2, .null, .null, .null, .null]) (st' := [.int a1]) (mem' := mem) hS hC 1 rfl ?_
  refine ex_call (y' := m_X10_isNumber) (rest := []) (ent := [.int a1]) hS hC rfl rfl rfl rfl rfl rfl ?_
  refine bk_X10_isNumber_0 ?_
  show pm_Ex ro m_X10_write 4 [.ref 33, .int a1, .int a2, .null, .null, .null, .null] [.int (zb (0 ≤ a1 ∧ a1 ≤ 9999))] mem Q
  refine ex_br (P := (zb (0 ≤ a1 ∧ a1 ≤ 9999)) = 0) (a := 14) (b := 7) (ls' := [.ref 33, .int a1, .int a2, .null, .null, .null, .null]) (st' := []) (mem' := mem) hS hC rfl (fun h => ?_) (fun h => ?_)
  · replace k := k.2 (zb0 h)
    refine ex_many (pc' := 16) (ls' := [.ref 33, .int a1, .int a2, .null, .null, .null, .null]) (st' := [.int (-2)]) (mem' := mem) hS hC 1 rfl ?_
    exact ex_ret (v := (some (.int (-2)))) hS hC rfl rfl rfl k
  · replace k := k.1 (zb1 h)
    refine ex_many (pc' := 8) (ls' := [.ref 33, .int a1, .int a2, .null, .null, .null, .null]) (st' := [.int a2]) (mem' := mem) hS hC 1 rfl ?_
    refine ex_call (y' := m_X10_isSheet) (rest := []) (ent := [.int a2]) hS hC rfl rfl rfl rfl rfl rfl ?_
    refine bk_X10_isSheet_0 ?_
    show pm_Ex ro m_X10_write 11 [.ref 33, .int a1, .int a2, .null, .null, .null, .null] [.int (zb (0 ≤ a2 ∧ a2 ≤ 3))] mem Q
    refine ex_br (P := ¬ (zb (0 ≤ a2 ∧ a2 ≤ 3)) = 0) (a := 17) (b := 14) (ls' := [.ref 33, .int a1, .int a2, .null, .null, .null, .null]) (st' := []) (mem' := mem) hS hC rfl (fun h => ?_) (fun h => ?_)
    · replace k := k.1 (zb1 h)
      refine ex_many (pc' := 22) (ls' := [.ref 33, .int a1, .int a2, .null, .null, .null, .null]) (st' := [.int a2, .ref 34]) (mem' := mem) hS hC 3 rfl ?_
      refine ex_grd (b := pm_inb a2 4) (pc' := 23) (ls' := [.ref 33, .int a1, .int a2, .null, .null, .null, .null]) (st' := [.int (mem 34 a2.toNatClampNeg)]) (mem' := mem) hS hC rfl k.1 ?_
      replace k := k.2
      refine ex_br (P := 0 ≤ (mem 34 a2.toNatClampNeg)) (a := 32) (b := 26) (ls' := [.ref 33, .int a1, .int a2, .null, .null, .null, .null]) (st' := []) (mem' := mem) hS hC rfl (fun h => ?_) (fun h => ?_)
      · replace k := k.1 (h)
        refine ex_many (pc' := 40) (ls' := [.ref 33, .int a1, .int a2, .int 1, .int 0, .int a1, .null]) (st' := []) (mem' := mem) hS hC 6 rfl ?_
        exact k
      · replace k := k.2 (h)
        refine ex_many (pc' := 28) (ls' := [.ref 33, .int a1, .int a2, .null, .null, .null, .null]) (st' := [.int 1, .ref 33]) (mem' := mem) hS hC 2 rfl ?_
        refine ex_call (y' := m_X10_met) (rest := []) (ent := [.ref 33, .int 1]) hS hC rfl rfl rfl rfl rfl rfl ?_
        refine bk_X10_met_0 ?_
        show pm_Ex ro m_X10_write 31 [.ref 33, .int a1, .int a2, .null, .null, .null, .null] [.int ((-10) - (1 : Int32))] (pm_up mem 33 4 (1 : Int32)) Q
        exact ex_ret (v := (some (.int ((-10) - (1 : Int32))))) hS hC rfl rfl rfl k
    · replace k := k.2 (zb0n h)
      refine ex_many (pc' := 16) (ls' := [.ref 33, .int a1, .int a2, .null, .null, .null, .null]) (st' := [.int (-2)]) (mem' := mem) hS hC 1 rfl ?_
      exact ex_ret (v := (some (.int (-2)))) hS hC rfl rfl rfl k

set_option maxRecDepth 20000 in
theorem bk_X10_write_40 {ro : pm_RO} {Q : Option Value → pm_M → Prop} {mem : pm_M} {x1 x2 x3 x4 x5 : Int32} (k : (x5 ≤ 0 → pm_Ex ro m_X10_write 86 [.ref 33, .int x1, .int x2, .int x3, .int x4, .int 0, .int x1] [] mem Q) ∧ (¬ (x5 ≤ 0) → (¬ (mem 41 0) = 0) ∧ (pm_Ex ro m_X10_write 40 [.ref 33, .int x1, .int x2, .int (x3 * (if ¬ x4 = 0 then mem 41 0 else 1 : Int32)), .int (x4 + 1), .int (x5 / (mem 41 0)), .null] [] mem Q))) : pm_Ex ro m_X10_write 40 [.ref 33, .int x1, .int x2, .int x3, .int x4, .int x5, .null] [] mem Q := by
  have hS : pm_sig[m_X10_write]? = some _ := rfl
  have hC : pm_cod[m_X10_write]? = some _ := rfl
  refine ex_many (pc' := 42) (ls' := [.ref 33, .int x1, .int x2, .int x3, .int x4, .int x5, .null]) (st' := [.int x5]) (mem' := mem) hS hC 1 rfl ?_
  refine ex_br (P := x5 ≤ 0) (a := 80) (b := 45) (ls' := [.ref 33, .int x1, .int x2, .int x3, .int x4, .int x5, .null]) (st' := []) (mem' := mem) hS hC rfl (fun h => ?_) (fun h => ?_)
  · replace k := k.1 (h)
    refine ex_many (pc' := 86) (ls' := [.ref 33, .int x1, .int x2, .int x3, .int x4, .int 0, .int x1]) (st' := []) (mem' := mem) hS hC 4 rfl ?_
    exact k
  · replace k := k.2 (h)
    refine ex_many (pc' := 48) (ls' := [.ref 33, .int x1, .int x2, .int x3, .int x4, .int x5, .null]) (st' := [.int x4, .int x3]) (mem' := mem) hS hC 2 rfl ?_
    have kp62 : pm_Ex ro m_X10_write 61 [.ref 33, .int x1, .int x2, .int x3, .int x4, .int x5, .null] [.int (if ¬ x4 = 0 then mem 41 0 else 1 : Int32), .int x3] mem Q := by
      refine ex_many (pc' := 74) (ls' := [.ref 33, .int x1, .int x2, .int (x3 * (if ¬ x4 = 0 then mem 41 0 else 1 : Int32)), .int (x4 + 1), .int x5, .null]) (st' := [.int (mem 41 0), .int x5]) (mem' := mem) hS hC 8 rfl ?_
      refine ex_grd (b := !(decide ((mem 41 0) = 0))) (pc' := 75) (ls' := [.ref 33, .int x1, .int x2, .int (x3 * (if ¬ x4 = 0 then mem 41 0 else 1 : Int32)), .int (x4 + 1), .int x5, .null]) (st' := [.int (x5 / (mem 41 0))]) (mem' := mem) hS hC rfl (pm_nz k.1) ?_
      replace k := k.2
      refine ex_many (pc' := 40) (ls' := [.ref 33, .int x1, .int x2, .int (x3 * (if ¬ x4 = 0 then mem 41 0 else 1 : Int32)), .int (x4 + 1), .int (x5 / (mem 41 0)), .null]) (st' := []) (mem' := mem) hS hC 2 rfl ?_
      exact k
    refine ex_br (P := ¬ x4 = 0) (a := 55) (b := 51) (ls' := [.ref 33, .int x1, .int x2, .int x3, .int x4, .int x5, .null]) (st' := [.int x3]) (mem' := mem) hS hC rfl (fun h => ?_) (fun h => ?_)
    · have kp62a : pm_Ex ro m_X10_write 61 [.ref 33, .int x1, .int x2, .int x3, .int x4, .int x5, .null] [.int (mem 41 0), .int x3] mem Q := pm_phi1 (f := fun z0 => pm_Ex ro m_X10_write 61 [.ref 33, .int x1, .int x2, .int x3, .int x4, .int x5, .null] [.int z0, .int x3] mem Q) (if_pos (h)) kp62
      refine ex_many (pc' := 61) (ls' := [.ref 33, .int x1, .int x2, .int x3, .int x4, .int x5, .null]) (st' := [.int (mem 41 0), .int x3]) (mem' := mem) hS hC 4 rfl ?_
      exact kp62a
    · have kp62b : pm_Ex ro m_X10_write 61 [.ref 33, .int x1, .int x2, .int x3, .int x4, .int x5, .null] [.int 1, .int x3] mem Q := pm_phi1 (f := fun z0 => pm_Ex ro m_X10_write 61 [.ref 33, .int x1, .int x2, .int x3, .int x4, .int x5, .null] [.int z0, .int x3] mem Q) (if_neg (h)) kp62
      refine ex_many (pc' := 61) (ls' := [.ref 33, .int x1, .int x2, .int x3, .int x4, .int x5, .null]) (st' := [.int 1, .int x3]) (mem' := mem) hS hC 2 rfl ?_
      exact kp62b

set_option maxRecDepth 20000 in
theorem bk_X10_write_86 {ro : pm_RO} {Q : Option Value → pm_M → Prop} {mem : pm_M} {x1 x2 x3 x4 x5 x6 : Int32} (k : (x4 ≤ x5 → Q (some (.int x5)) mem) ∧ (¬ (x4 ≤ x5) → (pm_inb x2 4 = true) ∧ (((mem 35 x2.toNatClampNeg) ≤ x5 → Q (some (.int x5)) mem) ∧ (¬ ((mem 35 x2.toNatClampNeg) ≤ x5) → (pm_inb x2 4 = true) ∧ ((¬ x3 = 0) ∧ ((pm_inb ((60 * x2) + x5) 240 = true) ∧ ((¬ x3 = 0) ∧ ((¬ (mem 41 0) = 0) ∧ (pm_Ex ro m_X10_write 86 [.ref 33, .int x1, .int x2, .int (x3 / (mem 41 0)), .int x4, .int (x5 + 1), .int (x6 - x6 / x3 * x3)] [] (pm_up mem 36 (((60 * x2) + x5).toNatClampNeg) (if ¬ (mem 34 x2.toNatClampNeg) = 0 then (if ¬ (mem 34 x2.toNatClampNeg) = 1 then (x6 / x3) else (x6 / x3).toInt16.toInt32 : Int32) else (x6 / x3).toInt8.toInt32 : Int32)) Q))))))))) : pm_Ex ro m_X10_write 86 [.ref 33, .int x1, .int x2, .int x3, .int x4, .int x5, .int x6] [] mem Q := by
  have hS : pm_sig[m_X10_write]? = some _ := rfl
  have hC : pm_cod[m_X10_write]? = some _ := rfl
  refine ex_many (pc' := 90) (ls' := [.ref 33, .int x1, .int x2, .int x3, .int x4, .int x5, .int x6]) (st' := [.int x4, .int x5]) (mem' := mem) hS hC 2 rfl ?_
  refine ex_br (P := x4 ≤ x5) (a := 150) (b := 93) (ls' := [.ref 33, .int x1, .int x2, .int x3, .int x4, .int x5, .int x6]) (st' := []) (mem' := mem) hS hC rfl (fun h => ?_) (fun h => ?_)
  · replace k := k.1 (h)
    refine ex_many (pc' := 152) (ls' := [.ref 33, .int x1, .int x2, .int x3, .int x4, .int x5, .int x6]) (st' := [.int x5]) (mem' := mem) hS hC 1 rfl ?_
    exact ex_ret (v := (some (.int x5))) hS hC rfl rfl rfl k
  · replace k := k.2 (h)
    refine ex_many (pc' := 100) (ls' := [.ref 33, .int x1, .int x2, .int x3, .int x4, .int x5, .int x6]) (st' := [.int x2, .ref 35, .int x5]) (mem' := mem) hS hC 4 rfl ?_
    refine ex_grd (b := pm_inb x2 4) (pc' := 101) (ls' := [.ref 33, .int x1, .int x2, .int x3, .int x4, .int x5, .int x6]) (st' := [.int (mem 35 x2.toNatClampNeg), .int x5]) (mem' := mem) hS hC rfl k.1 ?_
    replace k := k.2
    refine ex_br (P := (mem 35 x2.toNatClampNeg) ≤ x5) (a := 150) (b := 104) (ls' := [.ref 33, .int x1, .int x2, .int x3, .int x4, .int x5, .int x6]) (st' := []) (mem' := mem) hS hC rfl (fun h => ?_) (fun h => ?_)
    · replace k := k.1 (h)
      refine ex_many (pc' := 152) (ls' := [.ref 33, .int x1, .int x2, .int x3, .int x4, .int x5, .int x6]) (st' := [.int x5]) (mem' := mem) hS hC 1 rfl ?_
      exact ex_ret (v := (some (.int x5))) hS hC rfl rfl rfl k
    · replace k := k.2 (h)
      refine ex_many (pc' := 120) (ls' := [.ref 33, .int x1, .int x2, .int x3, .int x4, .int x5, .int x6]) (st' := [.int x2, .ref 34, .int ((60 * x2) + x5), .ref 36]) (mem' := mem) hS hC 10 rfl ?_
      refine ex_grd (b := pm_inb x2 4) (pc' := 121) (ls' := [.ref 33, .int x1, .int x2, .int x3, .int x4, .int x5, .int x6]) (st' := [.int (mem 34 x2.toNatClampNeg), .int ((60 * x2) + x5), .ref 36]) (mem' := mem) hS hC rfl k.1 ?_
      replace k := k.2
      refine ex_many (pc' := 124) (ls' := [.ref 33, .int x1, .int x2, .int x3, .int x4, .int x5, .int x6]) (st' := [.int x3, .int x6, .int (mem 34 x2.toNatClampNeg), .int ((60 * x2) + x5), .ref 36]) (mem' := mem) hS hC 2 rfl ?_
      refine ex_grd (b := !(decide (x3 = 0))) (pc' := 125) (ls' := [.ref 33, .int x1, .int x2, .int x3, .int x4, .int x5, .int x6]) (st' := [.int (x6 / x3), .int (mem 34 x2.toNatClampNeg), .int ((60 * x2) + x5), .ref 36]) (mem' := mem) hS hC rfl (pm_nz k.1) ?_
      replace k := k.2
      refine ex_call (y' := m_X10_cut) (rest := [.int ((60 * x2) + x5), .ref 36]) (ent := [.int (mem 34 x2.toNatClampNeg), .int (x6 / x3)]) hS hC rfl rfl rfl rfl rfl rfl ?_
      refine bk_X10_cut_0 ?_
      show pm_Ex ro m_X10_write 128 [.ref 33, .int x1, .int x2, .int x3, .int x4, .int x5, .int x6] [.int (if ¬ (mem 34 x2.toNatClampNeg) = 0 then (if ¬ (mem 34 x2.toNatClampNeg) = 1 then (x6 / x3) else (x6 / x3).toInt16.toInt32 : Int32) else (x6 / x3).toInt8.toInt32 : Int32), .int ((60 * x2) + x5), .ref 36] mem Q
      refine ex_grd (b := pm_inb ((60 * x2) + x5) 240) (pc' := 129) (ls' := [.ref 33, .int x1, .int x2, .int x3, .int x4, .int x5, .int x6]) (st' := []) (mem' := pm_up mem 36 (((60 * x2) + x5).toNatClampNeg) (if ¬ (mem 34 x2.toNatClampNeg) = 0 then (if ¬ (mem 34 x2.toNatClampNeg) = 1 then (x6 / x3) else (x6 / x3).toInt16.toInt32 : Int32) else (x6 / x3).toInt8.toInt32 : Int32)) hS hC rfl k.1 ?_
      replace k := k.2
      refine ex_many (pc' := 132) (ls' := [.ref 33, .int x1, .int x2, .int x3, .int x4, .int x5, .int x6]) (st' := [.int x3, .int x6]) (mem' := pm_up mem 36 (((60 * x2) + x5).toNatClampNeg) (if ¬ (mem 34 x2.toNatClampNeg) = 0 then (if ¬ (mem 34 x2.toNatClampNeg) = 1 then (x6 / x3) else (x6 / x3).toInt16.toInt32 : Int32) else (x6 / x3).toInt8.toInt32 : Int32)) hS hC 2 rfl ?_
      refine ex_grd (b := !(decide (x3 = 0))) (pc' := 133) (ls' := [.ref 33, .int x1, .int x2, .int x3, .int x4, .int x5, .int x6]) (st' := [.int (x6 - x6 / x3 * x3)]) (mem' := pm_up mem 36 (((60 * x2) + x5).toNatClampNeg) (if ¬ (mem 34 x2.toNatClampNeg) = 0 then (if ¬ (mem 34 x2.toNatClampNeg) = 1 then (x6 / x3) else (x6 / x3).toInt16.toInt32 : Int32) else (x6 / x3).toInt8.toInt32 : Int32)) hS hC rfl (pm_nz k.1) ?_
      replace k := k.2
      refine ex_many (pc' := 142) (ls' := [.ref 33, .int x1, .int x2, .int x3, .int x4, .int x5, .int (x6 - x6 / x3 * x3)]) (st' := [.int (mem 41 0), .int x3]) (mem' := pm_up mem 36 (((60 * x2) + x5).toNatClampNeg) (if ¬ (mem 34 x2.toNatClampNeg) = 0 then (if ¬ (mem 34 x2.toNatClampNeg) = 1 then (x6 / x3) else (x6 / x3).toInt16.toInt32 : Int32) else (x6 / x3).toInt8.toInt32 : Int32)) hS hC 6 rfl ?_
      refine ex_grd (b := !(decide ((mem 41 0) = 0))) (pc' := 143) (ls' := [.ref 33, .int x1, .int x2, .int x3, .int x4, .int x5, .int (x6 - x6 / x3 * x3)]) (st' := [.int (x3 / (mem 41 0))]) (mem' := pm_up mem 36 (((60 * x2) + x5).toNatClampNeg) (if ¬ (mem 34 x2.toNatClampNeg) = 0 then (if ¬ (mem 34 x2.toNatClampNeg) = 1 then (x6 / x3) else (x6 / x3).toInt16.toInt32 : Int32) else (x6 / x3).toInt8.toInt32 : Int32)) hS hC rfl (pm_nz k.1) ?_
      replace k := k.2
      refine ex_many (pc' := 86) (ls' := [.ref 33, .int x1, .int x2, .int (x3 / (mem 41 0)), .int x4, .int (x5 + 1), .int (x6 - x6 / x3 * x3)]) (st' := []) (mem' := pm_up mem 36 (((60 * x2) + x5).toNatClampNeg) (if ¬ (mem 34 x2.toNatClampNeg) = 0 then (if ¬ (mem 34 x2.toNatClampNeg) = 1 then (x6 / x3) else (x6 / x3).toInt16.toInt32 : Int32) else (x6 / x3).toInt8.toInt32 : Int32)) hS hC 3 rfl ?_
      exact k

set_option maxRecDepth 20000 in
theorem bk_X10_count_0 {ro : pm_RO} {Q : Option Value → pm_M → Prop} {mem : pm_M} {a1 : Int32} (k : pm_Ex ro m_X10_reads 0 [.ref 33, .null] [] mem (fun v m => pm_Ex ro m_X10_count 4 [.ref 33, .int a1] (v.toList ++ []) m Q)) : pm_Ex ro m_X10_count 0 [.ref 33, .int a1] [] mem Q := by
  have hS : pm_sig[m_X10_count]? = some _ := rfl
  have hC : pm_cod[m_X10_count]? = some _ := rfl
  refine ex_many (pc' := 1) (ls' := [.ref 33, .int a1]) (st' := [.ref 33]) (mem' := mem) hS hC 1 rfl ?_
  refine ex_call (y' := m_X10_reads) (rest := []) (ent := [.ref 33, .null]) hS hC rfl rfl rfl rfl rfl rfl ?_
  exact k

set_option maxRecDepth 20000 in
theorem bk_X10_count_6_c0 {ro : pm_RO} {Q : Option Value → pm_M → Prop} {mem : pm_M} {x1 : Int32} (k : Q (some (.int (mem 33 8))) mem) : pm_Ex ro m_X10_count 6 [.ref 33, .int x1] [.int 0] mem Q := by
  have hS : pm_sig[m_X10_count]? = some _ := rfl
  have hC : pm_cod[m_X10_count]? = some _ := rfl
  refine ex_one (pc' := 56) (ls' := [.ref 33, .int x1]) (st' := []) (mem' := mem) hS hC rfl ?_
  refine ex_many (pc' := 60) (ls' := [.ref 33, .int x1]) (st' := [.int (mem 33 8)]) (mem' := mem) hS hC 2 rfl ?_
  exact ex_ret (v := (some (.int (mem 33 8)))) hS hC rfl rfl rfl k

set_option maxRecDepth 20000 in
theorem bk_X10_count_6_c1 {ro : pm_RO} {Q : Option Value → pm_M → Prop} {mem : pm_M} {x1 : Int32} (k : Q (some (.int (mem 33 6))) mem) : pm_Ex ro m_X10_count 6 [.ref 33, .int x1] [.int 1] mem Q := by
  have hS : pm_sig[m_X10_count]? = some _ := rfl
  have hC : pm_cod[m_X10_count]? = some _ := rfl
  refine ex_one (pc' := 61) (ls' := [.ref 33, .int x1]) (st' := []) (mem' := mem) hS hC rfl ?_
  refine ex_many (pc' := 65) (ls' := [.ref 33, .int x1]) (st' := [.int (mem 33 6)]) (mem' := mem) hS hC 2 rfl ?_
  exact ex_ret (v := (some (.int (mem 33 6)))) hS hC rfl rfl rfl k

set_option maxRecDepth 20000 in
theorem bk_X10_count_6_c2 {ro : pm_RO} {Q : Option Value → pm_M → Prop} {mem : pm_M} {x1 : Int32} (k : pm_Ex ro m_X10_ones 0 [.int (mem 33 10), .null, .null] [] mem (fun v m => pm_Ex ro m_X10_count 73 [.ref 33, .int x1] (v.toList ++ []) m Q)) : pm_Ex ro m_X10_count 6 [.ref 33, .int x1] [.int 2] mem Q := by
  have hS : pm_sig[m_X10_count]? = some _ := rfl
  have hC : pm_cod[m_X10_count]? = some _ := rfl
  refine ex_one (pc' := 66) (ls' := [.ref 33, .int x1]) (st' := []) (mem' := mem) hS hC rfl ?_
  refine ex_many (pc' := 70) (ls' := [.ref 33, .int x1]) (st' := [.int (mem 33 10)]) (mem' := mem) hS hC 2 rfl ?_
  refine ex_call (y' := m_X10_ones) (rest := []) (ent := [.int (mem 33 10), .null, .null]) hS hC rfl rfl rfl rfl rfl rfl ?_
  exact k

set_option maxRecDepth 20000 in
theorem bk_X10_count_6_c3 {ro : pm_RO} {Q : Option Value → pm_M → Prop} {mem : pm_M} {x1 : Int32} (k : pm_Ex ro m_X10_sumOf 0 [.ref 33, .int (((1 : Int32) <<< ((mem 33 8) &&& 31)) - 1), .null, .null] [] mem (fun v m => pm_Ex ro m_X10_count 82 [.ref 33, .int x1] (v.toList ++ []) m Q)) : pm_Ex ro m_X10_count 6 [.ref 33, .int x1] [.int 3] mem Q := by
  have hS : pm_sig[m_X10_count]? = some _ := rfl
  have hC : pm_cod[m_X10_count]? = some _ := rfl
  refine ex_one (pc' := 74) (ls' := [.ref 33, .int x1]) (st' := []) (mem' := mem) hS hC rfl ?_
  refine ex_many (pc' := 76) (ls' := [.ref 33, .int x1]) (st' := [.ref 33, .ref 33]) (mem' := mem) hS hC 2 rfl ?_
  refine ex_call (y' := m_X10_whole) (rest := [.ref 33]) (ent := [.ref 33]) hS hC rfl rfl rfl rfl rfl rfl ?_
  refine bk_X10_whole_0 ?_
  show pm_Ex ro m_X10_count 79 [.ref 33, .int x1] [.int (((1 : Int32) <<< ((mem 33 8) &&& 31)) - 1), .ref 33] mem Q
  refine ex_call (y' := m_X10_sumOf) (rest := []) (ent := [.ref 33, .int (((1 : Int32) <<< ((mem 33 8) &&& 31)) - 1), .null, .null]) hS hC rfl rfl rfl rfl rfl rfl ?_
  exact k

set_option maxRecDepth 20000 in
theorem bk_X10_count_6_c4 {ro : pm_RO} {Q : Option Value → pm_M → Prop} {mem : pm_M} {x1 : Int32} (k : (pm_inb (x1 - 4) 4 = true) ∧ (Q (some (.int (mem 41 ((x1 - 4).toNatClampNeg)))) mem)) : pm_Ex ro m_X10_count 6 [.ref 33, .int x1] [.int 4] mem Q := by
  have hS : pm_sig[m_X10_count]? = some _ := rfl
  have hC : pm_cod[m_X10_count]? = some _ := rfl
  refine ex_one (pc' := 83) (ls' := [.ref 33, .int x1]) (st' := []) (mem' := mem) hS hC rfl ?_
  refine ex_many (pc' := 90) (ls' := [.ref 33, .int x1]) (st' := [.int (x1 - 4), .ref 41]) (mem' := mem) hS hC 5 rfl ?_
  refine ex_grd (b := pm_inb (x1 - 4) 4) (pc' := 91) (ls' := [.ref 33, .int x1]) (st' := [.int (mem 41 ((x1 - 4).toNatClampNeg))]) (mem' := mem) hS hC rfl k.1 ?_
  replace k := k.2
  exact ex_ret (v := (some (.int (mem 41 ((x1 - 4).toNatClampNeg))))) hS hC rfl rfl rfl k

set_option maxRecDepth 20000 in
theorem bk_X10_count_6_c5 {ro : pm_RO} {Q : Option Value → pm_M → Prop} {mem : pm_M} {x1 : Int32} (k : (pm_inb (x1 - 4) 4 = true) ∧ (Q (some (.int (mem 41 ((x1 - 4).toNatClampNeg)))) mem)) : pm_Ex ro m_X10_count 6 [.ref 33, .int x1] [.int 5] mem Q := by
  have hS : pm_sig[m_X10_count]? = some _ := rfl
  have hC : pm_cod[m_X10_count]? = some _ := rfl
  refine ex_one (pc' := 83) (ls' := [.ref 33, .int x1]) (st' := []) (mem' := mem) hS hC rfl ?_
  refine ex_many (pc' := 90) (ls' := [.ref 33, .int x1]) (st' := [.int (x1 - 4), .ref 41]) (mem' := mem) hS hC 5 rfl ?_
  refine ex_grd (b := pm_inb (x1 - 4) 4) (pc' := 91) (ls' := [.ref 33, .int x1]) (st' := [.int (mem 41 ((x1 - 4).toNatClampNeg))]) (mem' := mem) hS hC rfl k.1 ?_
  replace k := k.2
  exact ex_ret (v := (some (.int (mem 41 ((x1 - 4).toNatClampNeg))))) hS hC rfl rfl rfl k

set_option maxRecDepth 20000 in
theorem bk_X10_count_6_c6 {ro : pm_RO} {Q : Option Value → pm_M → Prop} {mem : pm_M} {x1 : Int32} (k : (pm_inb (x1 - 4) 4 = true) ∧ (Q (some (.int (mem 41 ((x1 - 4).toNatClampNeg)))) mem)) : pm_Ex ro m_X10_count 6 [.ref 33, .int x1] [.int 6] mem Q := by
  have hS : pm_sig[m_X10_count]? = some _ := rfl
  have hC : pm_cod[m_X10_count]? = some _ := rfl
  refine ex_one (pc' := 83) (ls' := [.ref 33, .int x1]) (st' := []) (mem' := mem) hS hC rfl ?_
  refine ex_many (pc' := 90) (ls' := [.ref 33, .int x1]) (st' := [.int (x1 - 4), .ref 41]) (mem' := mem) hS hC 5 rfl ?_
  refine ex_grd (b := pm_inb (x1 - 4) 4) (pc' := 91) (ls' := [.ref 33, .int x1]) (st' := [.int (mem 41 ((x1 - 4).toNatClampNeg))]) (mem' := mem) hS hC rfl k.1 ?_
  replace k := k.2
  exact ex_ret (v := (some (.int (mem 41 ((x1 - 4).toNatClampNeg))))) hS hC rfl rfl rfl k

set_option maxRecDepth 20000 in
theorem bk_X10_count_6_c7 {ro : pm_RO} {Q : Option Value → pm_M → Prop} {mem : pm_M} {x1 : Int32} (k : (pm_inb (x1 - 4) 4 = true) ∧ (Q (some (.int (mem 41 ((x1 - 4).toNatClampNeg)))) mem)) : pm_Ex ro m_X10_count 6 [.ref 33, .int x1] [.int 7] mem Q := by
  have hS : pm_sig[m_X10_count]? = some _ := rfl
  have hC : pm_cod[m_X10_count]? = some _ := rfl
  refine ex_one (pc' := 83) (ls' := [.ref 33, .int x1]) (st' := []) (mem' := mem) hS hC rfl ?_
  refine ex_many (pc' := 90) (ls' := [.ref 33, .int x1]) (st' := [.int (x1 - 4), .ref 41]) (mem' := mem) hS hC 5 rfl ?_
  refine ex_grd (b := pm_inb (x1 - 4) 4) (pc' := 91) (ls' := [.ref 33, .int x1]) (st' := [.int (mem 41 ((x1 - 4).toNatClampNeg))]) (mem' := mem) hS hC rfl k.1 ?_
  replace k := k.2
  exact ex_ret (v := (some (.int (mem 41 ((x1 - 4).toNatClampNeg))))) hS hC rfl rfl rfl k

set_option maxRecDepth 20000 in
theorem bk_X10_count_6_c8 {ro : pm_RO} {Q : Option Value → pm_M → Prop} {mem : pm_M} {x1 : Int32} (k : Q (some (.int (mem 33 4))) mem) : pm_Ex ro m_X10_count 6 [.ref 33, .int x1] [.int 8] mem Q := by
  have hS : pm_sig[m_X10_count]? = some _ := rfl
  have hC : pm_cod[m_X10_count]? = some _ := rfl
  refine ex_one (pc' := 92) (ls' := [.ref 33, .int x1]) (st' := []) (mem' := mem) hS hC rfl ?_
  refine ex_many (pc' := 96) (ls' := [.ref 33, .int x1]) (st' := [.int (mem 33 4)]) (mem' := mem) hS hC 2 rfl ?_
  exact ex_ret (v := (some (.int (mem 33 4)))) hS hC rfl rfl rfl k

set_option maxRecDepth 20000 in
theorem bk_X10_count_6_d {ro : pm_RO} {Q : Option Value → pm_M → Prop} {mem : pm_M} {x1 s0 : Int32} (h0 : ¬ s0 = 0) (h1 : ¬ s0 = 1) (h2 : ¬ s0 = 2) (h3 : ¬ s0 = 3) (h4 : ¬ s0 = 4) (h5 : ¬ s0 = 5) (h6 : ¬ s0 = 6) (h7 : ¬ s0 = 7) (h8 : ¬ s0 = 8) (k : Q (some (.int (-2))) mem) : pm_Ex ro m_X10_count 6 [.ref 33, .int x1] [.int s0] mem Q := by
  have hS : pm_sig[m_X10_count]? = some _ := rfl
  have hC : pm_cod[m_X10_count]? = some _ := rfl
  refine ex_tswd hS hC rfl (a := 97) rfl (pm_out9 h0 h1 h2 h3 h4 h5 h6 h7 h8) ?_
  refine ex_many (pc' := 99) (ls' := [.ref 33, .int x1]) (st' := [.int (-2)]) (mem' := mem) hS hC 1 rfl ?_
  exact ex_ret (v := (some (.int (-2)))) hS hC rfl rfl rfl k

set_option maxRecDepth 20000 in
theorem bk_X10_count_4 {ro : pm_RO} {Q : Option Value → pm_M → Prop} {mem : pm_M} {x1 s0 : Int32} (k : pm_Ex ro m_X10_count 6 [.ref 33, .int x1] [.int x1] mem Q) : pm_Ex ro m_X10_count 4 [.ref 33, .int x1] [.int s0] mem Q := by
  have hS : pm_sig[m_X10_count]? = some _ := rfl
  have hC : pm_cod[m_X10_count]? = some _ := rfl
  refine ex_many (pc' := 6) (ls' := [.ref 33, .int x1]) (st' := [.int x1]) (mem' := mem) hS hC 2 rfl ?_
  exact k

set_option maxRecDepth 20000 in
theorem bk_X10_count_73 {ro : pm_RO} {Q : Option Value → pm_M → Prop} {mem : pm_M} {x1 s0 : Int32} (k : Q (some (.int s0)) mem) : pm_Ex ro m_X10_count 73 [.ref 33, .int x1] [.int s0] mem Q := by
  have hS : pm_sig[m_X10_count]? = some _ := rfl
  have hC : pm_cod[m_X10_count]? = some _ := rfl
  exact ex_ret (v := (some (.int s0))) hS hC rfl rfl rfl k

set_option maxRecDepth 20000 in
theorem bk_X10_count_82 {ro : pm_RO} {Q : Option Value → pm_M → Prop} {mem : pm_M} {x1 s0 : Int32} (k : Q (some (.int s0)) mem) : pm_Ex ro m_X10_count 82 [.ref 33, .int x1] [.int s0] mem Q := by
  have hS : pm_sig[m_X10_count]? = some _ := rfl
  have hC : pm_cod[m_X10_count]? = some _ := rfl
  exact ex_ret (v := (some (.int s0))) hS hC rfl rfl rfl k

set_option maxRecDepth 20000 in
theorem bk_X10_digest_0 {ro : pm_RO} {Q : Option Value → pm_M → Prop} {mem : pm_M} (k : pm_Ex ro m_X10_digest 6 [.ref 33, .long 17, .null, .int 0, .null] [] mem Q) : pm_Ex ro m_X10_digest 0 [.ref 33, .null, .null, .null, .null] [] mem Q := by
  have hS : pm_sig[m_X10_digest]? = some _ := rfl
  have hC : pm_cod[m_X10_digest]? = some _ := rfl
  refine ex_many (pc' := 6) (ls' := [.ref 33, .long 17, .null, .int 0, .null]) (st' := []) (mem' := mem) hS hC 4 rfl ?_
  exact k

set_option maxRecDepth 20000 in
theorem bk_X10_digest_6 {ro : pm_RO} {Q : Option Value → pm_M → Prop} {mem : pm_M} {x3 : Int32} {x1 : Int64} (k : (8 ≤ x3 → pm_Ex ro m_X10_reads 0 [.ref 33, .null] [] mem (fun v m => pm_Ex ro m_X10_digest 40 [.ref 33, .long x1, .null, .int x3, .null] (v.toList ++ [.long (31 * x1)]) m Q)) ∧ (¬ (8 ≤ x3) → pm_Ex ro m_X10_count 0 [.ref 33, .int x3] [] mem (fun v m => pm_Ex ro m_X10_digest 22 [.ref 33, .long x1, .null, .int x3, .null] (v.toList ++ [.long (31 * x1)]) m Q))) : pm_Ex ro m_X10_digest 6 [.ref 33, .long x1, .null, .int x3, .null] [] mem Q := by
  have hS : pm_sig[m_X10_digest]? = some _ := rfl
  have hC : pm_cod[m_X10_digest]? = some _ := rfl
  refine ex_many (pc' := 9) (ls' := [.ref 33, .long x1, .null, .int x3, .null]) (st' := [.int 8, .int x3]) (mem' := mem) hS hC 2 rfl ?_
  refine ex_br (P := 8 ≤ x3) (a := 31) (b := 12) (ls' := [.ref 33, .long x1, .null, .int x3, .null]) (st' := []) (mem' := mem) hS hC rfl (fun h => ?_) (fun h => ?_)
  · replace k := k.1 (h)
    refine ex_many (pc' := 37) (ls' := [.ref 33, .long x1, .null, .int x3, .null]) (st' := [.ref 33, .long (31 * x1)]) (mem' := mem) hS hC 4 rfl ?_
    refine ex_call (y' := m_X10_reads) (rest := [.long (31 * x1)]) (ent := [.ref 33, .null]) hS hC rfl rfl rfl rfl rfl rfl ?_
    exact k
  · replace k := k.2 (h)
    refine ex_many (pc' := 19) (ls' := [.ref 33, .long x1, .null, .int x3, .null]) (st' := [.int x3, .ref 33, .long (31 * x1)]) (mem' := mem) hS hC 5 rfl ?_
    refine ex_call (y' := m_X10_count) (rest := [.long (31 * x1)]) (ent := [.ref 33, .int x3]) hS hC rfl rfl rfl rfl rfl rfl ?_
    exact k

set_option maxRecDepth 20000 in
theorem bk_X10_digest_45 {ro : pm_RO} {Q : Option Value → pm_M → Prop} {mem : pm_M} {x3 : Int32} {x1 : Int64} {d4 : Value} (k : ((mem 33 8) ≤ x3 → pm_Ex ro m_X10_digest 124 [.ref 33, .long x1, .null, .int 0, d4] [] mem Q) ∧ (¬ ((mem 33 8) ≤ x3) → pm_Ex ro m_X10_digest 56 [.ref 33, .long x1, .null, .int x3, .int 0] [] mem Q)) : pm_Ex ro m_X10_digest 45 [.ref 33, .long x1, .null, .int x3, d4] [] mem Q := by
  have hS : pm_sig[m_X10_digest]? = some _ := rfl
  have hC : pm_cod[m_X10_digest]? = some _ := rfl
  refine ex_many (pc' := 50) (ls' := [.ref 33, .long x1, .null, .int x3, d4]) (st' := [.int (mem 33 8), .int x3]) (mem' := mem) hS hC 3 rfl ?_
  refine ex_br (P := (mem 33 8) ≤ x3) (a := 122) (b := 53) (ls' := [.ref 33, .long x1, .null, .int x3, d4]) (st' := []) (mem' := mem) hS hC rfl (fun h => ?_) (fun h => ?_)
  · replace k := k.1 (h)
    refine ex_many (pc' := 124) (ls' := [.ref 33, .long x1, .null, .int 0, d4]) (st' := []) (mem' := mem) hS hC 2 rfl ?_
    exact k
  · replace k := k.2 (h)
    refine ex_many (pc' := 56) (ls' := [.ref 33, .long x1, .null, .int x3, .int 0]) (st' := []) (mem' := mem) hS hC 2 rfl ?_
    exact k

set_option maxRecDepth 20000 in
theorem bk_X10_digest_56 {ro : pm_RO} {Q : Option Value → pm_M → Prop} {mem : pm_M} {x3 x4 : Int32} {x1 : Int64} (k : (3 ≤ x4 → (pm_inb x3 8 = true) ∧ (pm_Ex ro m_X10_paidFor 0 [.ref 33, .int (mem 39 x3.toNatClampNeg), .null, .null, .null, .null] [] mem (fun v m => pm_Ex ro m_X10_digest 98 [.ref 33, .long x1, .null, .int x3, .int x4] (v.toList ++ [.long (31 * x1)]) m Q))) ∧ (¬ (3 ≤ x4) → pm_Ex ro m_X10_goodOf 0 [.ref 33, .int x3, .int x4] [] mem (fun v m => pm_Ex ro m_X10_digest 74 [.ref 33, .long x1, .null, .int x3, .int x4] (v.toList ++ [.long (31 * x1)]) m Q))) : pm_Ex ro m_X10_digest 56 [.ref 33, .long x1, .null, .int x3, .int x4] [] mem Q := by
  have hS : pm_sig[m_X10_digest]? = some _ := rfl
  have hC : pm_cod[m_X10_digest]? = some _ := rfl
  refine ex_many (pc' := 59) (ls' := [.ref 33, .long x1, .null, .int x3, .int x4]) (st' := [.int 3, .int x4]) (mem' := mem) hS hC 2 rfl ?_
  refine ex_br (P := 3 ≤ x4) (a := 83) (b := 62) (ls' := [.ref 33, .long x1, .null, .int x3, .int x4]) (st' := []) (mem' := mem) hS hC rfl (fun h => ?_) (fun h => ?_)
  · replace k := k.1 (h)
    refine ex_many (pc' := 94) (ls' := [.ref 33, .long x1, .null, .int x3, .int x4]) (st' := [.int x3, .ref 39, .ref 33, .long (31 * x1)]) (mem' := mem) hS hC 7 rfl ?_
    refine ex_grd (b := pm_inb x3 8) (pc' := 95) (ls' := [.ref 33, .long x1, .null, .int x3, .int x4]) (st' := [.int (mem 39 x3.toNatClampNeg), .ref 33, .long (31 * x1)]) (mem' := mem) hS hC rfl k.1 ?_
    replace k := k.2
    refine ex_call (y' := m_X10_paidFor) (rest := [.long (31 * x1)]) (ent := [.ref 33, .int (mem 39 x3.toNatClampNeg), .null, .null, .null, .null]) hS hC rfl rfl rfl rfl rfl rfl ?_
    exact k
  · replace k := k.2 (h)
    refine ex_many (pc' := 71) (ls' := [.ref 33, .long x1, .null, .int x3, .int x4]) (st' := [.int x4, .int x3, .ref 33, .long (31 * x1)]) (mem' := mem) hS hC 6 rfl ?_
    refine ex_call (y' := m_X10_goodOf) (rest := [.long (31 * x1)]) (ent := [.ref 33, .int x3, .int x4]) hS hC rfl rfl rfl rfl rfl rfl ?_
    exact k

set_option maxRecDepth 20000 in
theorem bk_X10_digest_124 {ro : pm_RO} {Q : Option Value → pm_M → Prop} {mem : pm_M} {x3 : Int32} {x1 : Int64} {d4 : Value} (k : (4 ≤ x3 → pm_Ex ro m_X10_addedTo 0 [.ref 33, .int 120, .null, .null] [] mem (fun v m => pm_Ex ro m_X10_digest 159 [.ref 33, .long x1, .null, .int x3, d4] (v.toList ++ [.long (31 * x1)]) m Q)) ∧ (¬ (4 ≤ x3) → pm_Ex ro m_X10_boughtOf 0 [.ref 33, .int x3, .null, .null, .null, .null, .null, .null, .null, .null] [] mem (fun v m => pm_Ex ro m_X10_digest 139 [.ref 33, .long x1, .null, .int x3, d4] (v.toList ++ [.long (31 * x1)]) m Q))) : pm_Ex ro m_X10_digest 124 [.ref 33, .long x1, .null, .int x3, d4] [] mem Q := by
  have hS : pm_sig[m_X10_digest]? = some _ := rfl
  have hC : pm_cod[m_X10_digest]? = some _ := rfl
  refine ex_many (pc' := 126) (ls' := [.ref 33, .long x1, .null, .int x3, d4]) (st' := [.int 4, .int x3]) (mem' := mem) hS hC 2 rfl ?_
  refine ex_br (P := 4 ≤ x3) (a := 148) (b := 129) (ls' := [.ref 33, .long x1, .null, .int x3, d4]) (st' := []) (mem' := mem) hS hC rfl (fun h => ?_) (fun h => ?_)
  · replace k := k.1 (h)
    refine ex_many (pc' := 156) (ls' := [.ref 33, .long x1, .null, .int x3, d4]) (st' := [.int 120, .ref 33, .long (31 * x1)]) (mem' := mem) hS hC 5 rfl ?_
    refine ex_call (y' := m_X10_addedTo) (rest := [.long (31 * x1)]) (ent := [.ref 33, .int 120, .null, .null]) hS hC rfl rfl rfl rfl rfl rfl ?_
    exact k
  · replace k := k.2 (h)
    refine ex_many (pc' := 136) (ls' := [.ref 33, .long x1, .null, .int x3, d4]) (st' := [.int x3, .ref 33, .long (31 * x1)]) (mem' := mem) hS hC 5 rfl ?_
    refine ex_call (y' := m_X10_boughtOf) (rest := [.long (31 * x1)]) (ent := [.ref 33, .int x3, .null, .null, .null, .null, .null, .null, .null, .null]) hS hC rfl rfl rfl rfl rfl rfl ?_
    exact k

set_option maxRecDepth 20000 in
theorem bk_X10_digest_194 {ro : pm_RO} {Q : Option Value → pm_M → Prop} {mem : pm_M} {x3 : Int32} {x1 : Int64} {d4 : Value} (k : (3 ≤ x3 → pm_Ex ro m_X10_digest 225 [.ref 33, .long x1, .null, .int 1, d4] [] mem Q) ∧ (¬ (3 ≤ x3) → pm_Ex ro m_X10_roundsOf 0 [.ref 33, .int 500, .int 21, .int x3, .null, .null, .null, .null, .null] [] mem (fun v m => pm_Ex ro m_X10_digest 214 [.ref 33, .long x1, .null, .int x3, d4] (v.toList ++ [.long (31 * x1)]) m Q))) : pm_Ex ro m_X10_digest 194 [.ref 33, .long x1, .null, .int x3, d4] [] mem Q := by
  have hS : pm_sig[m_X10_digest]? = some _ := rfl
  have hC : pm_cod[m_X10_digest]? = some _ := rfl
  refine ex_many (pc' := 196) (ls' := [.ref 33, .long x1, .null, .int x3, d4]) (st' := [.int 3, .int x3]) (mem' := mem) hS hC 2 rfl ?_
  refine ex_br (P := 3 ≤ x3) (a := 223) (b := 199) (ls' := [.ref 33, .long x1, .null, .int x3, d4]) (st' := []) (mem' := mem) hS hC rfl (fun h => ?_) (fun h => ?_)
  · replace k := k.1 (h)
    refine ex_many (pc' := 225) (ls' := [.ref 33, .long x1, .null, .int 1, d4]) (st' := []) (mem' := mem) hS hC 2 rfl ?_
    exact k
  · replace k := k.2 (h)
    refine ex_many (pc' := 211) (ls' := [.ref 33, .long x1, .null, .int x3, d4]) (st' := [.int x3, .int 21, .int 500, .ref 33, .long (31 * x1)]) (mem' := mem) hS hC 7 rfl ?_
    refine ex_call (y' := m_X10_roundsOf) (rest := [.long (31 * x1)]) (ent := [.ref 33, .int 500, .int 21, .int x3, .null, .null, .null, .null, .null]) hS hC rfl rfl rfl rfl rfl rfl ?_
    exact k

set_option maxRecDepth 20000 in
theorem bk_X10_digest_225 {ro : pm_RO} {Q : Option Value → pm_M → Prop} {mem : pm_M} {x3 : Int32} {x1 : Int64} {d4 : Value} (k : (4 ≤ x3 → pm_Ex ro m_X10_rentOf 0 [.ref 33, .int 60, .int 3, .int 0, .null, .null, .null, .null, .null] [] mem (fun v m => pm_Ex ro m_X10_digest 279 [.ref 33, .long x1, .null, .int x3, d4] (v.toList ++ [.long (31 * x1)]) m Q)) ∧ (¬ (4 ≤ x3) → pm_Ex ro m_X10_digest 233 [.ref 33, .long x1, .null, .int x3, .int 0] [] mem Q)) : pm_Ex ro m_X10_digest 225 [.ref 33, .long x1, .null, .int x3, d4] [] mem Q := by
  have hS : pm_sig[m_X10_digest]? = some _ := rfl
  have hC : pm_cod[m_X10_digest]? = some _ := rfl
  refine ex_many (pc' := 227) (ls' := [.ref 33, .long x1, .null, .int x3, d4]) (st' := [.int 4, .int x3]) (mem' := mem) hS hC 2 rfl ?_
  refine ex_br (P := 4 ≤ x3) (a := 266) (b := 230) (ls' := [.ref 33, .long x1, .null, .int x3, d4]) (st' := []) (mem' := mem) hS hC rfl (fun h => ?_) (fun h => ?_)
  · replace k := k.1 (h)
    refine ex_many (pc' := 276) (ls' := [.ref 33, .long x1, .null, .int x3, d4]) (st' := [.int 0, .int 3, .int 60, .ref 33, .long (31 * x1)]) (mem' := mem) hS hC 7 rfl ?_
    refine ex_call (y' := m_X10_rentOf) (rest := [.long (31 * x1)]) (ent := [.ref 33, .int 60, .int 3, .int 0, .null, .null, .null, .null, .null]) hS hC rfl rfl rfl rfl rfl rfl ?_
    exact k
  · replace k := k.2 (h)
    refine ex_many (pc' := 233) (ls' := [.ref 33, .long x1, .null, .int x3, .int 0]) (st' := []) (mem' := mem) hS hC 2 rfl ?_
    exact k

set_option maxRecDepth 20000 in
theorem bk_X10_digest_233 {ro : pm_RO} {Q : Option Value → pm_M → Prop} {mem : pm_M} {x3 x4 : Int32} {x1 : Int64} (k : (4 ≤ x4 → pm_Ex ro m_X10_digest 225 [.ref 33, .long x1, .null, .int (x3 + 1), .int x4] [] mem Q) ∧ (¬ (4 ≤ x4) → pm_Ex ro m_X10_figuresOf 0 [.ref 33, .int x3, .int x4, .null, .null, .null, .null, .null, .null, .null, .null, .null] [] mem (fun v m => pm_Ex ro m_X10_digest 251 [.ref 33, .long x1, .null, .int x3, .int x4] (v.toList ++ [.long (31 * x1)]) m Q))) : pm_Ex ro m_X10_digest 233 [.ref 33, .long x1, .null, .int x3, .int x4] [] mem Q := by
  have hS : pm_sig[m_X10_digest]? = some _ := rfl
  have hC : pm_cod[m_X10_digest]? = some _ := rfl
  refine ex_many (pc' := 236) (ls' := [.ref 33, .long x1, .null, .int x3, .int x4]) (st' := [.int 4, .int x4]) (mem' := mem) hS hC 2 rfl ?_
  refine ex_br (P := 4 ≤ x4) (a := 260) (b := 239) (ls' := [.ref 33, .long x1, .null, .int x3, .int x4]) (st' := []) (mem' := mem) hS hC rfl (fun h => ?_) (fun h => ?_)
  · replace k := k.1 (h)
    refine ex_many (pc' := 225) (ls' := [.ref 33, .long x1, .null, .int (x3 + 1), .int x4]) (st' := []) (mem' := mem) hS hC 2 rfl ?_
    exact k
  · replace k := k.2 (h)
    refine ex_many (pc' := 248) (ls' := [.ref 33, .long x1, .null, .int x3, .int x4]) (st' := [.int x4, .int x3, .ref 33, .long (31 * x1)]) (mem' := mem) hS hC 6 rfl ?_
    refine ex_call (y' := m_X10_figuresOf) (rest := [.long (31 * x1)]) (ent := [.ref 33, .int x3, .int x4, .null, .null, .null, .null, .null, .null, .null, .null, .null]) hS hC rfl rfl rfl rfl rfl rfl ?_
    exact k

set_option maxRecDepth 20000 in
theorem bk_X10_digest_300 {ro : pm_RO} {Q : Option Value → pm_M → Prop} {mem : pm_M} {x3 : Int32} {x1 : Int64} {d4 : Value} (k : (4 ≤ x3 → pm_Ex ro m_X10_gameOf 0 [.ref 33, .int 5, .int 14, .int 31, .int 0, .null, .null, .null, .null, .null, .null, .null, .null] [] mem (fun v m => pm_Ex ro m_X10_digest 355 [.ref 33, .long x1, .null, .int x3, d4] (v.toList ++ [.long (31 * x1)]) m Q)) ∧ (¬ (4 ≤ x3) → pm_Ex ro m_X10_digest 308 [.ref 33, .long x1, .null, .int x3, .int 0] [] mem Q)) : pm_Ex ro m_X10_digest 300 [.ref 33, .long x1, .null, .int x3, d4] [] mem Q := by
  have hS : pm_sig[m_X10_digest]? = some _ := rfl
  have hC : pm_cod[m_X10_digest]? = some _ := rfl
  refine ex_many (pc' := 302) (ls' := [.ref 33, .long x1, .null, .int x3, d4]) (st' := [.int 4, .int x3]) (mem' := mem) hS hC 2 rfl ?_
  refine ex_br (P := 4 ≤ x3) (a := 340) (b := 305) (ls' := [.ref 33, .long x1, .null, .int x3, d4]) (st' := []) (mem' := mem) hS hC rfl (fun h => ?_) (fun h => ?_)
  · replace k := k.1 (h)
    refine ex_many (pc' := 352) (ls' := [.ref 33, .long x1, .null, .int x3, d4]) (st' := [.int 0, .int 31, .int 14, .int 5, .ref 33, .long (31 * x1)]) (mem' := mem) hS hC 8 rfl ?_
    refine ex_call (y' := m_X10_gameOf) (rest := [.long (31 * x1)]) (ent := [.ref 33, .int 5, .int 14, .int 31, .int 0, .null, .null, .null, .null, .null, .null, .null, .null]) hS hC rfl rfl rfl rfl rfl rfl ?_
    exact k
  · replace k := k.2 (h)
    refine ex_many (pc' := 308) (ls' := [.ref 33, .long x1, .null, .int x3, .int 0]) (st' := []) (mem' := mem) hS hC 2 rfl ?_
    exact k

set_option maxRecDepth 20000 in
theorem bk_X10_digest_308 {ro : pm_RO} {Q : Option Value → pm_M → Prop} {mem : pm_M} {x3 x4 : Int32} {x1 : Int64} (k : (2 ≤ x4 → pm_Ex ro m_X10_digest 300 [.ref 33, .long x1, .null, .int (x3 + 1), .int x4] [] mem Q) ∧ (¬ (2 ≤ x4) → pm_Ex ro m_X10_shareOf 0 [.ref 33, .int x3, .int x4, .null, .null, .null, .null, .null] [] mem (fun v m => pm_Ex ro m_X10_digest 326 [.ref 33, .long x1, .null, .int x3, .int x4] (v.toList ++ [.long (31 * x1)]) m Q))) : pm_Ex ro m_X10_digest 308 [.ref 33, .long x1, .null, .int x3, .int x4] [] mem Q := by
  have hS : pm_sig[m_X10_digest]? = some _ := rfl
  have hC : pm_cod[m_X10_digest]? = some _ := rfl
  refine ex_many (pc' := 311) (ls' := [.ref 33, .long x1, .null, .int x3, .int x4]) (st' := [.int 2, .int x4]) (mem' := mem) hS hC 2 rfl ?_
  refine ex_br (P := 2 ≤ x4) (a := 334) (b := 314) (ls' := [.ref 33, .long x1, .null, .int x3, .int x4]) (st' := []) (mem' := mem) hS hC rfl (fun h => ?_) (fun h => ?_)
  · replace k := k.1 (h)
    refine ex_many (pc' := 300) (ls' := [.ref 33, .long x1, .null, .int (x3 + 1), .int x4]) (st' := []) (mem' := mem) hS hC 2 rfl ?_
    exact k
  · replace k := k.2 (h)
    refine ex_many (pc' := 323) (ls' := [.ref 33, .long x1, .null, .int x3, .int x4]) (st' := [.int x4, .int x3, .ref 33, .long (31 * x1)]) (mem' := mem) hS hC 6 rfl ?_
    refine ex_call (y' := m_X10_shareOf) (rest := [.long (31 * x1)]) (ent := [.ref 33, .int x3, .int x4, .null, .null, .null, .null, .null]) hS hC rfl rfl rfl rfl rfl rfl ?_
    exact k

set_option maxRecDepth 20000 in
theorem bk_X10_digest_22 {ro : pm_RO} {Q : Option Value → pm_M → Prop} {mem : pm_M} {x3 s0 : Int32} {x1 s1 : Int64} (k : pm_Ex ro m_X10_digest 6 [.ref 33, .long (s1 + s0.toInt64), .null, .int (x3 + 1), .null] [] mem Q) : pm_Ex ro m_X10_digest 22 [.ref 33, .long x1, .null, .int x3, .null] [.int s0, .long s1] mem Q := by
  have hS : pm_sig[m_X10_digest]? = some _ := rfl
  have hC : pm_cod[m_X10_digest]? = some _ := rfl
  refine ex_many (pc' := 6) (ls' := [.ref 33, .long (s1 + s0.toInt64), .null, .int (x3 + 1), .null]) (st' := []) (mem' := mem) hS hC 5 rfl ?_
  exact k

set_option maxRecDepth 20000 in
theorem bk_X10_digest_40 {ro : pm_RO} {Q : Option Value → pm_M → Prop} {mem : pm_M} {x3 s0 : Int32} {x1 s1 : Int64} (k : pm_Ex ro m_X10_digest 45 [.ref 33, .long (s1 + s0.toInt64), .null, .int 0, .null] [] mem Q) : pm_Ex ro m_X10_digest 40 [.ref 33, .long x1, .null, .int x3, .null] [.int s0, .long s1] mem Q := by
  have hS : pm_sig[m_X10_digest]? = some _ := rfl
  have hC : pm_cod[m_X10_digest]? = some _ := rfl
  refine ex_many (pc' := 45) (ls' := [.ref 33, .long (s1 + s0.toInt64), .null, .int 0, .null]) (st' := []) (mem' := mem) hS hC 5 rfl ?_
  exact k

set_option maxRecDepth 20000 in
theorem bk_X10_digest_74 {ro : pm_RO} {Q : Option Value → pm_M → Prop} {mem : pm_M} {x3 x4 s0 : Int32} {x1 s1 : Int64} (k : pm_Ex ro m_X10_digest 56 [.ref 33, .long (s1 + s0.toInt64), .null, .int x3, .int (x4 + 1)] [] mem Q) : pm_Ex ro m_X10_digest 74 [.ref 33, .long x1, .null, .int x3, .int x4] [.int s0, .long s1] mem Q := by
  have hS : pm_sig[m_X10_digest]? = some _ := rfl
  have hC : pm_cod[m_X10_digest]? = some _ := rfl
  refine ex_many (pc' := 56) (ls' := [.ref 33, .long (s1 + s0.toInt64), .null, .int x3, .int (x4 + 1)]) (st' := []) (mem' := mem) hS hC 5 rfl ?_
  exact k

set_option maxRecDepth 20000 in
theorem bk_X10_digest_98 {ro : pm_RO} {Q : Option Value → pm_M → Prop} {mem : pm_M} {x3 x4 s0 : Int32} {x1 s1 : Int64} (k : pm_Ex ro m_X10_raisedOf 0 [.ref 33, .int x3, .int 20, .null, .null, .null] [] mem (fun v m => pm_Ex ro m_X10_digest 113 [.ref 33, .long (s1 + s0.toInt64), .null, .int x3, .int x4] (v.toList ++ [.long (31 * (s1 + s0.toInt64))]) m Q)) : pm_Ex ro m_X10_digest 98 [.ref 33, .long x1, .null, .int x3, .int x4] [.int s0, .long s1] mem Q := by
  have hS : pm_sig[m_X10_digest]? = some _ := rfl
  have hC : pm_cod[m_X10_digest]? = some _ := rfl
  refine ex_many (pc' := 110) (ls' := [.ref 33, .long (s1 + s0.toInt64), .null, .int x3, .int x4]) (st' := [.int 20, .int x3, .ref 33, .long (31 * (s1 + s0.toInt64))]) (mem' := mem) hS hC 9 rfl ?_
  refine ex_call (y' := m_X10_raisedOf) (rest := [.long (31 * (s1 + s0.toInt64))]) (ent := [.ref 33, .int x3, .int 20, .null, .null, .null]) hS hC rfl rfl rfl rfl rfl rfl ?_
  exact k

set_option maxRecDepth 20000 in
theorem bk_X10_digest_139 {ro : pm_RO} {Q : Option Value → pm_M → Prop} {mem : pm_M} {x3 s0 : Int32} {x1 s1 : Int64} {d4 : Value} (k : pm_Ex ro m_X10_digest 124 [.ref 33, .long (s1 + s0.toInt64), .null, .int (x3 + 1), d4] [] mem Q) : pm_Ex ro m_X10_digest 139 [.ref 33, .long x1, .null, .int x3, d4] [.int s0, .long s1] mem Q := by
  have hS : pm_sig[m_X10_digest]? = some _ := rfl
  have hC : pm_cod[m_X10_digest]? = some _ := rfl
  refine ex_many (pc' := 124) (ls' := [.ref 33, .long (s1 + s0.toInt64), .null, .int (x3 + 1), d4]) (st' := []) (mem' := mem) hS hC 5 rfl ?_
  exact k

set_option maxRecDepth 20000 in
theorem bk_X10_digest_159 {ro : pm_RO} {Q : Option Value → pm_M → Prop} {mem : pm_M} {x3 s0 : Int32} {x1 s1 : Int64} {d4 : Value} (k : pm_Ex ro m_X10_proofOf 0 [.ref 33, .int 8, .int 0, .null, .null] [] mem (fun v m => pm_Ex ro m_X10_digest 174 [.ref 33, .long (s1 + s0.toInt64), .null, .int x3, d4] (v.toList ++ [.long (31 * (s1 + s0.toInt64))]) m Q)) : pm_Ex ro m_X10_digest 159 [.ref 33, .long x1, .null, .int x3, d4] [.int s0, .long s1] mem Q := by
  have hS : pm_sig[m_X10_digest]? = some _ := rfl
  have hC : pm_cod[m_X10_digest]? = some _ := rfl
  refine ex_many (pc' := 171) (ls' := [.ref 33, .long (s1 + s0.toInt64), .null, .int x3, d4]) (st' := [.int 0, .int 8, .ref 33, .long (31 * (s1 + s0.toInt64))]) (mem' := mem) hS hC 9 rfl ?_
  refine ex_call (y' := m_X10_proofOf) (rest := [.long (31 * (s1 + s0.toInt64))]) (ent := [.ref 33, .int 8, .int 0, .null, .null]) hS hC rfl rfl rfl rfl rfl rfl ?_
  exact k

set_option maxRecDepth 20000 in
theorem bk_X10_digest_214 {ro : pm_RO} {Q : Option Value → pm_M → Prop} {mem : pm_M} {x3 s0 : Int32} {x1 s1 : Int64} {d4 : Value} (k : pm_Ex ro m_X10_digest 194 [.ref 33, .long (s1 + s0.toInt64), .null, .int (x3 + 1), d4] [] mem Q) : pm_Ex ro m_X10_digest 214 [.ref 33, .long x1, .null, .int x3, d4] [.int s0, .long s1] mem Q := by
  have hS : pm_sig[m_X10_digest]? = some _ := rfl
  have hC : pm_cod[m_X10_digest]? = some _ := rfl
  refine ex_many (pc' := 194) (ls' := [.ref 33, .long (s1 + s0.toInt64), .null, .int (x3 + 1), d4]) (st' := []) (mem' := mem) hS hC 5 rfl ?_
  exact k

set_option maxRecDepth 20000 in
theorem bk_X10_digest_251 {ro : pm_RO} {Q : Option Value → pm_M → Prop} {mem : pm_M} {x3 x4 s0 : Int32} {x1 s1 : Int64} (k : pm_Ex ro m_X10_digest 233 [.ref 33, .long (s1 + s0.toInt64), .null, .int x3, .int (x4 + 1)] [] mem Q) : pm_Ex ro m_X10_digest 251 [.ref 33, .long x1, .null, .int x3, .int x4] [.int s0, .long s1] mem Q := by
  have hS : pm_sig[m_X10_digest]? = some _ := rfl
  have hC : pm_cod[m_X10_digest]? = some _ := rfl
  refine ex_many (pc' := 233) (ls' := [.ref 33, .long (s1 + s0.toInt64), .null, .int x3, .int (x4 + 1)]) (st' := []) (mem' := mem) hS hC 5 rfl ?_
  exact k

set_option maxRecDepth 20000 in
theorem bk_X10_digest_279 {ro : pm_RO} {Q : Option Value → pm_M → Prop} {mem : pm_M} {x3 s0 : Int32} {x1 s1 : Int64} {d4 : Value} (k : pm_Ex ro m_X10_rentOf 0 [.ref 33, .int 60, .int 3, .int 1, .null, .null, .null, .null, .null] [] mem (fun v m => pm_Ex ro m_X10_digest 295 [.ref 33, .long (s1 + s0.toInt64), .null, .int x3, d4] (v.toList ++ [.long (31 * (s1 + s0.toInt64))]) m Q)) : pm_Ex ro m_X10_digest 279 [.ref 33, .long x1, .null, .int x3, d4] [.int s0, .long s1] mem Q := by
  have hS : pm_sig[m_X10_digest]? = some _ := rfl
  have hC : pm_cod[m_X10_digest]? = some _ := rfl
  refine ex_many (pc' := 292) (ls' := [.ref 33, .long (s1 + s0.toInt64), .null, .int x3, d4]) (st' := [.int 1, .int 3, .int 60, .ref 33, .long (31 * (s1 + s0.toInt64))]) (mem' := mem) hS hC 10 rfl ?_
  refine ex_call (y' := m_X10_rentOf) (rest := [.long (31 * (s1 + s0.toInt64))]) (ent := [.ref 33, .int 60, .int 3, .int 1, .null, .null, .null, .null, .null]) hS hC rfl rfl rfl rfl rfl rfl ?_
  exact k

set_option maxRecDepth 20000 in
theorem bk_X10_digest_326 {ro : pm_RO} {Q : Option Value → pm_M → Prop} {mem : pm_M} {x3 x4 : Int32} {x1 s0 s1 : Int64} (k : pm_Ex ro m_X10_digest 308 [.ref 33, .long (s1 + s0), .null, .int x3, .int (x4 + 1)] [] mem Q) : pm_Ex ro m_X10_digest 326 [.ref 33, .long x1, .null, .int x3, .int x4] [.long s0, .long s1] mem Q := by
  have hS : pm_sig[m_X10_digest]? = some _ := rfl
  have hC : pm_cod[m_X10_digest]? = some _ := rfl
  refine ex_many (pc' := 308) (ls' := [.ref 33, .long (s1 + s0), .null, .int x3, .int (x4 + 1)]) (st' := []) (mem' := mem) hS hC 4 rfl ?_
  exact k

set_option maxRecDepth 20000 in
theorem bk_X10_digest_355 {ro : pm_RO} {Q : Option Value → pm_M → Prop} {mem : pm_M} {x3 s0 : Int32} {x1 s1 : Int64} {d4 : Value} (k : pm_Ex ro m_X10_gameOf 0 [.ref 33, .int 5, .int 14, .int 31, .int 1, .null, .null, .null, .null, .null, .null, .null, .null] [] mem (fun v m => pm_Ex ro m_X10_digest 373 [.ref 33, .long (s1 + s0.toInt64), .null, .int x3, d4] (v.toList ++ [.long (31 * (s1 + s0.toInt64))]) m Q)) : pm_Ex ro m_X10_digest 355 [.ref 33, .long x1, .null, .int x3, d4] [.int s0, .long s1] mem Q := by
  have hS : pm_sig[m_X10_digest]? = some _ := rfl
  have hC : pm_cod[m_X10_digest]? = some _ := rfl
  refine ex_many (pc' := 370) (ls' := [.ref 33, .long (s1 + s0.toInt64), .null, .int x3, d4]) (st' := [.int 1, .int 31, .int 14, .int 5, .ref 33, .long (31 * (s1 + s0.toInt64))]) (mem' := mem) hS hC 11 rfl ?_
  refine ex_call (y' := m_X10_gameOf) (rest := [.long (31 * (s1 + s0.toInt64))]) (ent := [.ref 33, .int 5, .int 14, .int 31, .int 1, .null, .null, .null, .null, .null, .null, .null, .null]) hS hC rfl rfl rfl rfl rfl rfl ?_
  exact k

set_option maxRecDepth 20000 in
theorem bk_X10_digest_113 {ro : pm_RO} {Q : Option Value → pm_M → Prop} {mem : pm_M} {x3 x4 s0 : Int32} {x1 s1 : Int64} (k : pm_Ex ro m_X10_digest 45 [.ref 33, .long (s1 + s0.toInt64), .null, .int (x3 + 1), .int x4] [] mem Q) : pm_Ex ro m_X10_digest 113 [.ref 33, .long x1, .null, .int x3, .int x4] [.int s0, .long s1] mem Q := by
  have hS : pm_sig[m_X10_digest]? = some _ := rfl
  have hC : pm_cod[m_X10_digest]? = some _ := rfl
  refine ex_many (pc' := 45) (ls' := [.ref 33, .long (s1 + s0.toInt64), .null, .int (x3 + 1), .int x4]) (st' := []) (mem' := mem) hS hC 5 rfl ?_
  exact k

set_option maxRecDepth 20000 in
theorem bk_X10_digest_174 {ro : pm_RO} {Q : Option Value → pm_M → Prop} {mem : pm_M} {x3 s0 : Int32} {x1 s1 : Int64} {d4 : Value} (k : pm_Ex ro m_X10_proofOf 0 [.ref 33, .int 8, .int 1, .null, .null] [] mem (fun v m => pm_Ex ro m_X10_digest 189 [.ref 33, .long (s1 + s0.toInt64), .null, .int x3, d4] (v.toList ++ [.long (31 * (s1 + s0.toInt64))]) m Q)) : pm_Ex ro m_X10_digest 174 [.ref 33, .long x1, .null, .int x3, d4] [.int s0, .long s1] mem Q := by
  have hS : pm_sig[m_X10_digest]? = some _ := rfl
  have hC : pm_cod[m_X10_digest]? = some _ := rfl
  refine ex_many (pc' := 186) (ls' := [.ref 33, .long (s1 + s0.toInt64), .null, .int x3, d4]) (st' := [.int 1, .int 8, .ref 33, .long (31 * (s1 + s0.toInt64))]) (mem' := mem) hS hC 9 rfl ?_
  refine ex_call (y' := m_X10_proofOf) (rest := [.long (31 * (s1 + s0.toInt64))]) (ent := [.ref 33, .int 8, .int 1, .null, .null]) hS hC rfl rfl rfl rfl rfl rfl ?_
  exact k

set_option maxRecDepth 20000 in
theorem bk_X10_digest_295 {ro : pm_RO} {Q : Option Value → pm_M → Prop} {mem : pm_M} {x3 s0 : Int32} {x1 s1 : Int64} {d4 : Value} (k : pm_Ex ro m_X10_digest 300 [.ref 33, .long (s1 + s0.toInt64), .null, .int 0, d4] [] mem Q) : pm_Ex ro m_X10_digest 295 [.ref 33, .long x1, .null, .int x3, d4] [.int s0, .long s1] mem Q := by
  have hS : pm_sig[m_X10_digest]? = some _ := rfl
  have hC : pm_cod[m_X10_digest]? = some _ := rfl
  refine ex_many (pc' := 300) (ls' := [.ref 33, .long (s1 + s0.toInt64), .null, .int 0, d4]) (st' := []) (mem' := mem) hS hC 5 rfl ?_
  exact k

set_option maxRecDepth 20000 in
theorem bk_X10_digest_373 {ro : pm_RO} {Q : Option Value → pm_M → Prop} {mem : pm_M} {x3 s0 : Int32} {x1 s1 : Int64} {d4 : Value} (k : Q (some (.long (s1 + s0.toInt64))) mem) : pm_Ex ro m_X10_digest 373 [.ref 33, .long x1, .null, .int x3, d4] [.int s0, .long s1] mem Q := by
  have hS : pm_sig[m_X10_digest]? = some _ := rfl
  have hC : pm_cod[m_X10_digest]? = some _ := rfl
  refine ex_many (pc' := 375) (ls' := [.ref 33, .long x1, .null, .int x3, d4]) (st' := [.long (s1 + s0.toInt64)]) (mem' := mem) hS hC 2 rfl ?_
  exact ex_ret (v := (some (.long (s1 + s0.toInt64)))) hS hC rfl rfl rfl k

set_option maxRecDepth 20000 in
theorem bk_X10_digest_189 {ro : pm_RO} {Q : Option Value → pm_M → Prop} {mem : pm_M} {x3 s0 : Int32} {x1 s1 : Int64} {d4 : Value} (k : pm_Ex ro m_X10_digest 194 [.ref 33, .long (s1 + s0.toInt64), .null, .int 0, d4] [] mem Q) : pm_Ex ro m_X10_digest 189 [.ref 33, .long x1, .null, .int x3, d4] [.int s0, .long s1] mem Q := by
  have hS : pm_sig[m_X10_digest]? = some _ := rfl
  have hC : pm_cod[m_X10_digest]? = some _ := rfl
  refine ex_many (pc' := 194) (ls' := [.ref 33, .long (s1 + s0.toInt64), .null, .int 0, d4]) (st' := []) (mem' := mem) hS hC 5 rfl ?_
  exact k

