set_option maxRecDepth 20000 in
theorem bk_J6_bitCount_0f7a4_0 {ro : pm_RO} {Q : Option Value → pm_M → Prop} {mem : pm_M} {a1 : Int32} (k : Q (some (.int ((((((((a1 - (((a1.toUInt32 >>> ((1 : Int32).toUInt32 &&& Int32.toUInt32 31)).toInt32) &&& 1431655765)) &&& 858993459) + ((((a1 - (((a1.toUInt32 >>> ((1 : Int32).toUInt32 &&& Int32.toUInt32 31)).toInt32) &&& 1431655765)).toUInt32 >>> ((2 : Int32).toUInt32 &&& Int32.toUInt32 31)).toInt32) &&& 858993459)) + (((((a1 - (((a1.toUInt32 >>> ((1 : Int32).toUInt32 &&& Int32.toUInt32 31)).toInt32) &&& 1431655765)) &&& 858993459) + ((((a1 - (((a1.toUInt32 >>> ((1 : Int32).toUInt32 &&& Int32.toUInt32 31)).toInt32) &&& 1431655765)).toUInt32 >>> ((2 : Int32).toUInt32 &&& Int32.toUInt32 31)).toInt32) &&& 858993459)).toUInt32 >>> ((4 : Int32).toUInt32 &&& Int32.toUInt32 31)).toInt32)) &&& 252645135) + (((((((a1 - (((a1.toUInt32 >>> ((1 : Int32).toUInt32 &&& Int32.toUInt32 31)).toInt32) &&& 1431655765)) &&& 858993459) + ((((a1 - (((a1.toUInt32 >>> ((1 : Int32).toUInt32 &&& Int32.toUInt32 31)).toInt32) &&& 1431655765)).toUInt32 >>> ((2 : Int32).toUInt32 &&& Int32.toUInt32 31)).toInt32) &&& 858993459)) + (((((a1 - (((a1.toUInt32 >>> ((1 : Int32).toUInt32 &&& Int32.toUInt32 31)).toInt32) &&& 1431655765)) &&& 858993459) + ((((a1 - (((a1.toUInt32 >>> ((1 : Int32).toUInt32 &&& Int32.toUInt32 31)).toInt32) &&& 1431655765)).toUInt32 >>> ((2 : Int32).toUInt32 &&& Int32.toUInt32 31)).toInt32) &&& 858993459)).toUInt32 >>> ((4 : Int32).toUInt32 &&& Int32.toUInt32 31)).toInt32)) &&& 252645135).toUInt32 >>> ((8 : Int32).toUInt32 &&& Int32.toUInt32 31)).toInt32)) + ((((((((a1 - (((a1.toUInt32 >>> ((1 : Int32).toUInt32 &&& Int32.toUInt32 31)).toInt32) &&& 1431655765)) &&& 858993459) + ((((a1 - (((a1.toUInt32 >>> ((1 : Int32).toUInt32 &&& Int32.toUInt32 31)).toInt32) &&& 1431655765)).toUInt32 >>> ((2 : Int32).toUInt32 &&& Int32.toUInt32 31)).toInt32) &&& 858993459)) + (((((a1 - (((a1.toUInt32 >>> ((1 : Int32).toUInt32 &&& Int32.toUInt32 31)).toInt32) &&& 1431655765)) &&& 858993459) + ((((a1 - (((a1.toUInt32 >>> ((1 : Int32).toUInt32 &&& Int32.toUInt32 31)).toInt32) &&& 1431655765)).toUInt32 >>> ((2 : Int32).toUInt32 &&& Int32.toUInt32 31)).toInt32) &&& 858993459)).toUInt32 >>> ((4 : Int32).toUInt32 &&& Int32.toUInt32 31)).toInt32)) &&& 252645135) + (((((((a1 - (((a1.toUInt32 >>> ((1 : Int32).toUInt32 &&& Int32.toUInt32 31)).toInt32) &&& 1431655765)) &&& 858993459) + ((((a1 - (((a1.toUInt32 >>> ((1 : Int32).toUInt32 &&& Int32.toUInt32 31)).toInt32) &&& 1431655765)).toUInt32 >>> ((2 : Int32).toUInt32 &&& Int32.toUInt32 31)).toInt32) &&& 858993459)) + (((((a1 - (((a1.toUInt32 >>> ((1 : Int32).toUInt32 &&& Int32.toUInt32 31)).toInt32) &&& 1431655765)) &&& 858993459) + ((((a1 - (((a1.toUInt32 >>> ((1 : Int32).toUInt32 &&& Int32.toUInt32 31)).toInt32) &&& 1431655765)).toUInt32 >>> ((2 : Int32).toUInt32 &&& Int32.toUInt32 31)).toInt32) &&& 858993459)).toUInt32 >>> ((4 : Int32).toUInt32 &&& Int32.toUInt32 31)).toInt32)) &&& 252645135).toUInt32 >>> ((8 : Int32).toUInt32 &&& Int32.toUInt32 31)).toInt32)).toUInt32 >>> ((16 : Int32).toUInt32 &&& Int32.toUInt32 31)).toInt32)) &&& 63))) mem) : pm_Ex ro m_J6_bitCount_0f7a4 0 [.int a1] [] mem Q := by
  have hS : pm_sig[m_J6_bitCount_0f7a4]? = some _ := rfl
  have hC : pm_cod[m_J6_bitCount_0f7a4]? = some _ := rfl
  refine ex_many (pc' := 52) (ls' := [.int (((((((a1 - (((a1.toUInt32 >>> ((1 : Int32).toUInt32 &&& Int32.toUInt32 31)).toInt32) &&& 1431655765)) &&& 858993459) + ((((a1 - (((a1.toUInt32 >>> ((1 : Int32).toUInt32 &&& Int32.toUInt32 31)).toInt32) &&& 1431655765)).toUInt32 >>> ((2 : Int32).toUInt32 &&& Int32.toUInt32 31)).toInt32) &&& 858993459)) + (((((a1 - (((a1.toUInt32 >>> ((1 : Int32).toUInt32 &&& Int32.toUInt32 31)).toInt32) &&& 1431655765)) &&& 858993459) + ((((a1 - (((a1.toUInt32 >>> ((1 : Int32).toUInt32 &&& Int32.toUInt32 31)).toInt32) &&& 1431655765)).toUInt32 >>> ((2 : Int32).toUInt32 &&& Int32.toUInt32 31)).toInt32) &&& 858993459)).toUInt32 >>> ((4 : Int32).toUInt32 &&& Int32.toUInt32 31)).toInt32)) &&& 252645135) + (((((((a1 - (((a1.toUInt32 >>> ((1 : Int32).toUInt32 &&& Int32.toUInt32 31)).toInt32) &&& 1431655765)) &&& 858993459) + ((((a1 - (((a1.toUInt32 >>> ((1 : Int32).toUInt32 &&& Int32.toUInt32 31)).toInt32) &&& 1431655765)).toUInt32 >>> ((2 : Int32).toUInt32 &&& Int32.toUInt32 31)).toInt32) &&& 858993459)) + (((((a1 - (((a1.toUInt32 >>> ((1 : Int32).toUInt32 &&& Int32.toUInt32 31)).toInt32) &&& 1431655765)) &&& 858993459) + ((((a1 - (((a1.toUInt32 >>> ((1 : Int32).toUInt32 &&& Int32.toUInt32 31)).toInt32) &&& 1431655765)).toUInt32 >>> ((2 : Int32).toUInt32 &&& Int32.toUInt32 31)).toInt32) &&& 858993459)).toUInt32 >>> ((4 : Int32).toUInt32 &&& Int32.toUInt32 31)).toInt32)) &&& 252645135).toUInt32 >>> ((8 : Int32).toUInt32 &&& Int32.toUInt32 31)).toInt32)) + ((((((((a1 - (((a1.toUInt32 >>> ((1 : Int32).toUInt32 &&& Int32.toUInt32 31)).toInt32) &&& 1431655765)) &&& 858993459) + ((((a1 - (((a1.toUInt32 >>> ((1 : Int32).toUInt32 &&& Int32.toUInt32 31)).toInt32) &&& 1431655765)).toUInt32 >>> ((2 : Int32).toUInt32 &&& Int32.toUInt32 31)).toInt32) &&& 858993459)) + (((((a1 - (((a1.toUInt32 >>> ((1 : Int32).toUInt32 &&& Int32.toUInt32 31)).toInt32) &&& 1431655765)) &&& 858993459) + ((((a1 - (((a1.toUInt32 >>> ((1 : Int32).toUInt32 &&& Int32.toUInt32 31)).toInt32) &&& 1431655765)).toUInt32 >>> ((2 : Int32).toUInt32 &&& Int32.toUInt32 31)).toInt32) &&& 858993459)).toUInt32 >>> ((4 : Int32).toUInt32 &&& Int32.toUInt32 31)).toInt32)) &&& 252645135) + (((((((a1 - (((a1.toUInt32 >>> ((1 : Int32).toUInt32 &&& Int32.toUInt32 31)).toInt32) &&& 1431655765)) &&& 858993459) + ((((a1 - (((a1.toUInt32 >>> ((1 : Int32).toUInt32 &&& Int32.toUInt32 31)).toInt32) &&& 1431655765)).toUInt32 >>> ((2 : Int32).toUInt32 &&& Int32.toUInt32 31)).toInt32) &&& 858993459)) + (((((a1 - (((a1.toUInt32 >>> ((1 : Int32).toUInt32 &&& Int32.toUInt32 31)).toInt32) &&& 1431655765)) &&& 858993459) + ((((a1 - (((a1.toUInt32 >>> ((1 : Int32).toUInt32 &&& Int32.toUInt32 31)).toInt32) &&& 1431655765)).toUInt32 >>> ((2 : Int32).toUInt32 &&& Int32.toUInt32 31)).toInt32) &&& 858993459)).toUInt32 >>> ((4 : Int32).toUInt32 &&& Int32.toUInt32 31)).toInt32)) &&& 252645135).toUInt32 >>> ((8 : Int32).toUInt32 &&& Int32.toUInt32 31)).toInt32)).toUInt32 >>> ((16 : Int32).toUInt32 &&& Int32.toUInt32 31)).toInt32))]) (st' := [.int ((((((((a1 - (((a1.toUInt32 >>> ((1 : Int32).toUInt32 &&& Int32.toUInt32 31)).toInt32) &&& 1431655765)) &&& 858993459) + ((((a1 - (((a1.toUInt32 >>> ((1 : Int32).toUInt32 &&& Int32.toUInt32 31)).toInt32) &&& 1431655765)).toUInt32 >>> ((2 : Int32).toUInt32 &&& Int32.toUInt32 31)).toInt32) &&& 858993459)) + (((((a1 - (((a1.toUInt32 >>> ((1 : Int32).toUInt32 &&& Int32.toUInt32 31)).toInt32) &&& 1431655765)) &&& 858993459) + ((((a1 - (((a1.toUInt32 >>> ((1 : Int32).toUInt32 &&& Int32.toUInt32 31)).toInt32) &&& 1431655765)).toUInt32 >>> ((2 : Int32).toUInt32 &&& Int32.toUInt32 31)).toInt32) &&& 858993459)).toUInt32 >>> ((4 : Int32).toUInt32 &&& Int32.toUInt32 31)).toInt32)) &&& 252645135) + (((((((a1 - (((a1.toUInt32 >>> ((1 : Int32).toUInt32 &&& Int32.toUInt32 31)).toInt32) &&& 1431655765)) &&& 858993459) + ((((a1 - (((a1.toUInt32 >>> ((1 : Int32).toUInt32 &&& Int32.toUInt32 31)).toInt32) &&& 1431655765)).toUInt32 >>> ((2 : Int32).toUInt32 &&& Int32.toUInt32 31)).toInt32) &&& 858993459)) + (((((a1 - (((a1.toUInt32 >>> ((1 : Int32).toUInt32 &&& Int32.toUInt32 31)).toInt32) &&& 1431655765)) &&& 858993459) + ((((a1 - (((a1.toUInt32 >>> ((1 : Int32).toUInt32 &&& Int32.toUInt32 31)).toInt32) &&& 1431655765)).toUInt32 >>> ((2 : Int32).toUInt32 &&& Int32.toUInt32 31)).toInt32) &&& 858993459)).toUInt32 >>> ((4 : Int32).toUInt32 &&& Int32.toUInt32 31)).toInt32)) &&& 252645135).toUInt32 >>> ((8 : Int32).toUInt32 &&& Int32.toUInt32 31)).toInt32)) + ((((((((a1 - (((a1.toUInt32 >>> ((1 : Int32).toUInt32 &&& Int32.toUInt32 31)).toInt32) &&& 1431655765)) &&& 858993459) + ((((a1 - (((a1.toUInt32 >>> ((1 : Int32).toUInt32 &&& Int32.toUInt32 31)).toInt32) &&& 1431655765)).toUInt32 >>> ((2 : Int32).toUInt32 &&& Int32.toUInt32 31)).toInt32) &&& 858993459)) + (((((a1 - (((a1.toUInt32 >>> ((1 : Int32).toUInt32 &&& Int32.toUInt32 31)).toInt32) &&& 1431655765)) &&& 858993459) + ((((a1 - (((a1.toUInt32 >>> ((1 : Int32).toUInt32 &&& Int32.toUInt32 31)).toInt32) &&& 1431655765)).toUInt32 >>> ((2 : Int32).toUInt32 &&& Int32.toUInt32 31)).toInt32) &&& 858993459)).toUInt32 >>> ((4 : Int32).toUInt32 &&& Int32.toUInt32 31)).toInt32)) &&& 252645135) + (((((((a1 - (((a1.toUInt32 >>> ((1 : Int32).toUInt32 &&& Int32.toUInt32 31)).toInt32) &&& 1431655765)) &&& 858993459) + ((((a1 - (((a1.toUInt32 >>> ((1 : Int32).toUInt32 &&& Int32.toUInt32 31)).toInt32) &&& 1431655765)).toUInt32 >>> ((2 : Int32).toUInt32 &&& Int32.toUInt32 31)).toInt32) &&& 858993459)) + (((((a1 - (((a1.toUInt32 >>> ((1 : Int32).toUInt32 &&& Int32.toUInt32 31)).toInt32) &&& 1431655765)) &&& 858993459) + ((((a1 - (((a1.toUInt32 >>> ((1 : Int32).toUInt32 &&& Int32.toUInt32 31)).toInt32) &&& 1431655765)).toUInt32 >>> ((2 : Int32).toUInt32 &&& Int32.toUInt32 31)).toInt32) &&& 858993459)).toUInt32 >>> ((4 : Int32).toUInt32 &&& Int32.toUInt32 31)).toInt32)) &&& 252645135).toUInt32 >>> ((8 : Int32).toUInt32 &&& Int32.toUInt32 31)).toInt32)).toUInt32 >>> ((16 : Int32).toUInt32 &&& Int32.toUInt32 31)).toInt32)) &&& 63)]) (mem' := mem) hS hC 41 rfl ?_
  exact ex_ret (v := (some (.int ((((((((a1 - (((a1.toUInt32 >>> ((1 : Int32).toUInt32 &&& Int32.toUInt32 31)).toInt32) &&& 1431655765)) &&& 858993459) + ((((a1 - (((a1.toUInt32 >>> ((1 : Int32).toUInt32 &&& Int32.toUInt32 31)).toInt32) &&& 1431655765)).toUInt32 >>> ((2 : Int32).toUInt32 &&& Int32.toUInt32 31)).toInt32) &&& 858993459)) + (((((a1 - (((a1.toUInt32 >>> ((1 : Int32).toUInt32 &&& Int32.toUInt32 31)).toInt32) &&& 1431655765)) &&& 858993459) + ((((a1 - (((a1.toUInt32 >>> ((1 : Int32).toUInt32 &&& Int32.toUInt32 31)).toInt32) &&& 1431655765)).toUInt32 >>> ((2 : Int32).toUInt32 &&& Int32.toUInt32 31)).toInt32) &&& 858993459)).toUInt32 >>> ((4 : Int32).toUInt32 &&& Int32.toUInt32 31)).toInt32)) &&& 252645135) + (((((((a1 - (((a1.toUInt32 >>> ((1 : Int32).toUInt32 &&& Int32.toUInt32 31)).toInt32) &&& 1431655765)) &&& 858993459) + ((((a1 - (((a1.toUInt32 >>> ((1 : Int32).toUInt32 &&& Int32.toUInt32 31)).toInt32) &&& 1431655765)).toUInt32 >>> ((2 : Int32).toUInt32 &&& Int32.toUInt32 31)).toInt32) &&& 858993459)) + (((((a1 - (((a1.toUInt32 >>> ((1 : Int32).toUInt32 &&& Int32.toUInt32 31)).toInt32) &&& 1431655765)) &&& 858993459) + ((((a1 - (((a1.toUInt32 >>> ((1 : Int32).toUInt32 &&& Int32.toUInt32 31)).toInt32) &&& 1431655765)).toUInt32 >>> ((2 : Int32).toUInt32 &&& Int32.toUInt32 31)).toInt32) &&& 858993459)).toUInt32 >>> ((4 : Int32).toUInt32 &&& Int32.toUInt32 31)).toInt32)) &&& 252645135).toUInt32 >>> ((8 : Int32).toUInt32 &&& Int32.toUInt32 31)).toInt32)) + ((((((((a1 - (((a1.toUInt32 >>> ((1 : Int32).toUInt32 &&& Int32.toUInt32 31)).toInt32) &&& 1431655765)) &&& 858993459) + ((((a1 - (((a1.toUInt32 >>> ((1 : Int32).toUInt32 &&& Int32.toUInt32 31)).toInt32) &&& 1431655765)).toUInt32 >>> ((2 : Int32).toUInt32 &&& Int32.toUInt32 31)).toInt32) &&& 858993459)) + (((((a1 - (((a1.toUInt32 >>> ((1 : Int32).toUInt32 &&& Int32.toUInt32 31)).toInt32) &&& 1431655765)) &&& 858993459) + ((((a1 - (((a1.toUInt32 >>> ((1 : Int32).toUInt32 &&& Int32.toUInt32 31)).toInt32) &&& 1431655765)).toUInt32 >>> ((2 : Int32).toUInt32 &&& Int32.toUInt32 31)).toInt32) &&& 858993459)).toUInt32 >>> ((4 : Int32).toUInt32 &&& Int32.toUInt32 31)).toInt32)) &&& 252645135) + (((((((a1 - (((a1.toUInt32 >>> ((1 : Int32).toUInt32 &&& Int32.toUInt32 31)).toInt32) &&& 1431655765)) &&& 858993459) + ((((a1 - (((a1.toUInt32 >>> ((1 : Int32).toUInt32 &&& Int32.toUInt32 31)).toInt32) &&& 1431655765)).toUInt32 >>> ((2 : Int32).toUInt32 &&& Int32.toUInt32 31)).toInt32) &&& 858993459)) + (((((a1 - (((a1.toUInt32 >>> ((1 : Int32).toUInt32 &&& Int32.toUInt32 31)).toInt32) &&& 1431655765)) &&& 858993459) + ((((a1 - (((a1.toUInt32 >>> ((1 : Int32).toUInt32 &&& Int32.toUInt32 31)).toInt32) &&& 1431655765)).toUInt32 >>> ((2 : Int32).toUInt32 &&& Int32.toUInt32 31)).toInt32) &&& 858993459)).toUInt32 >>> ((4 : Int32).toUInt32 &&& Int32.toUInt32 31)).toInt32)) &&& 252645135).toUInt32 >>> ((8 : Int32).toUInt32 &&& Int32.toUInt32 31)).toInt32)).toUInt32 >>> ((16 : Int32).toUInt32 &&& Int32.toUInt32 31)).toInt32)) &&& 63)))) hS hC rfl rfl rfl k

set_option maxRecDepth 20000 in
theorem bk_J7_fill_53178_0 {ro : pm_RO} {Q : Option Value → pm_M → Prop} {mem : pm_M} {a2 : Int32} {T nT : Nat} (hT : pm_lay[T]? = some (.inl nT)) (k : pm_Ex ro m_J7_fill_53178 5 [.ref T, .int a2, .int 0, .int (Int32.ofNat nT)] [] mem Q) : pm_Ex ro m_J7_fill_53178 0 [.ref T, .int a2, .null, .null] [] mem Q := by
  have hS : pm_sig[m_J7_fill_53178]? = some _ := rfl
  have hC : pm_cod[m_J7_fill_53178]? = some _ := rfl
  refine ex_many (pc' := 3) (ls' := [.ref T, .int a2, .int 0, .null]) (st' := [.ref T]) (mem' := mem) hS hC 3 rfl ?_
  refine ex_alnS hS hC rfl hT ?_
  show pm_Ex ro m_J7_fill_53178 4 [.ref T, .int a2, .int 0, .null] [.int (Int32.ofNat nT)] mem Q
  refine ex_many (pc' := 5) (ls' := [.ref T, .int a2, .int 0, .int (Int32.ofNat nT)]) (st' := []) (mem' := mem) hS hC 1 rfl ?_
  exact k

set_option maxRecDepth 20000 in
theorem bk_J7_fill_53178_5 {ro : pm_RO} {Q : Option Value → pm_M → Prop} {mem : pm_M} {x1 x2 x3 : Int32} {T nT : Nat} (hT : pm_lay[T]? = some (.inl nT)) (k : (x3 ≤ x2 → Q none mem) ∧ (¬ (x3 ≤ x2) → (pm_inb x2 nT = true) ∧ (pm_Ex ro m_J7_fill_53178 5 [.ref T, .int x1, .int (x2 + 1), .int x3] [] (pm_up mem T x2.toNatClampNeg x1) Q))) : pm_Ex ro m_J7_fill_53178 5 [.ref T, .int x1, .int x2, .int x3] [] mem Q := by
  have hS : pm_sig[m_J7_fill_53178]? = some _ := rfl
  have hC : pm_cod[m_J7_fill_53178]? = some _ := rfl
  refine ex_many (pc' := 7) (ls' := [.ref T, .int x1, .int x2, .int x3]) (st' := [.int x3, .int x2]) (mem' := mem) hS hC 2 rfl ?_
  refine ex_br (P := x3 ≤ x2) (a := 20) (b := 10) (ls' := [.ref T, .int x1, .int x2, .int x3]) (st' := []) (mem' := mem) hS hC rfl (fun h => ?_) (fun h => ?_)
  · replace k := k.1 (h)
    exact ex_ret (v := none) hS hC rfl rfl rfl k
  · replace k := k.2 (h)
    refine ex_many (pc' := 13) (ls' := [.ref T, .int x1, .int x2, .int x3]) (st' := [.int x1, .int x2, .ref T]) (mem' := mem) hS hC 3 rfl ?_
    refine ex_astS hS hC rfl hT k.1 ?_
    replace k := k.2
    show pm_Ex ro m_J7_fill_53178 14 [.ref T, .int x1, .int x2, .int x3] [] (pm_up mem T x2.toNatClampNeg x1) Q
    refine ex_many (pc' := 5) (ls' := [.ref T, .int x1, .int (x2 + 1), .int x3]) (st' := []) (mem' := pm_up mem T x2.toNatClampNeg x1) hS hC 2 rfl ?_
    exact k

set_option maxRecDepth 20000 in
theorem bk_X9_within_0 {ro : pm_RO} {Q : Option Value → pm_M → Prop} {mem : pm_M} {a1 a2 a3 : Int32} (k : Q (some (.int (zb (¬ (a1 < a2) ∧ (¬ (a3 < a1)))))) mem) : pm_Ex ro m_X9_within 0 [.int a1, .int a2, .int a3] [] mem Q := by
  have hS : pm_sig[m_X9_within]? = some _ := rfl
  have hC : pm_cod[m_X9_within]? = some _ := rfl
  refine ex_many (pc' := 2) (ls' := [.int a1, .int a2, .int a3]) (st' := [.int a2, .int a1]) (mem' := mem) hS hC 2 rfl ?_
  have kp3 : pm_Ex ro m_X9_within 15 [.int a1, .int a2, .int a3] [.int (zb (¬ (a1 < a2) ∧ (¬ (a3 < a1))))] mem Q := by
    exact ex_retz hS hC rfl rfl rfl (zb_01 _) k
  refine ex_br (P := a1 < a2) (a := 14) (b := 5) (ls' := [.int a1, .int a2, .int a3]) (st' := []) (mem' := mem) hS hC rfl (fun h => ?_) (fun h => ?_)
  · have kp3a : pm_Ex ro m_X9_within 15 [.int a1, .int a2, .int a3] [.int 0] mem Q := pm_phi1 (f := fun z0 => pm_Ex ro m_X9_within 15 [.int a1, .int a2, .int a3] [.int z0] mem Q) (zbN_t (h)) kp3
    refine ex_many (pc' := 15) (ls' := [.int a1, .int a2, .int a3]) (st' := [.int 0]) (mem' := mem) hS hC 1 rfl ?_
    exact kp3a
  · have kp3b : pm_Ex ro m_X9_within 15 [.int a1, .int a2, .int a3] [.int (zb (¬ (a3 < a1)))] mem Q := pm_phi1 (f := fun z0 => pm_Ex ro m_X9_within 15 [.int a1, .int a2, .int a3] [.int z0] mem Q) (zbN_f (h)) kp3
    have kp2 : pm_Ex ro m_X9_within 15 [.int a1, .int a2, .int a3] [.int (zb (¬ (a3 < a1)))] mem Q := by
      exact kp3b
    refine ex_many (pc' := 7) (ls' := [.int a1, .int a2, .int a3]) (st' := [.int a3, .int a1]) (mem' := mem) hS hC 2 rfl ?_
    refine ex_br (P := a3 < a1) (a := 14) (b := 10) (ls' := [.int a1, .int a2, .int a3]) (st' := []) (mem' := mem) hS hC rfl (fun h => ?_) (fun h => ?_)
    · have kp2a : pm_Ex ro m_X9_within 15 [.int a1, .int a2, .int a3] [.int 0] mem Q := pm_phi1 (f := fun z0 => pm_Ex ro m_X9_within 15 [.int a1, .int a2, .int a3] [.int z0] mem Q) (zb_npos (h)) kp2
      refine ex_many (pc' := 15) (ls' := [.int a1, .int a2, .int a3]) (st' := [.int 0]) (mem' := mem) hS hC 1 rfl ?_
      exact kp2a
    · have kp2b : pm_Ex ro m_X9_within 15 [.int a1, .int a2, .int a3] [.int 1] mem Q := pm_phi1 (f := fun z0 => pm_Ex ro m_X9_within 15 [.int a1, .int a2, .int a3] [.int z0] mem Q) (zb_nneg (h)) kp2
      refine ex_many (pc' := 15) (ls' := [.int a1, .int a2, .int a3]) (st' := [.int 1]) (mem' := mem) hS hC 2 rfl ?_
      exact kp2b

set_option maxRecDepth 20000 in
theorem bk_X9_isPartner_0 {ro : pm_RO} {Q : Option Value → pm_M → Prop} {mem : pm_M} {a1 : Int32} (k : Q (some (.int (zb (¬ (a1 < (0 : Int32)) ∧ (¬ ((3 : Int32) < a1)))))) mem) : pm_Ex ro m_X9_isPartner 0 [.int a1] [] mem Q := by
  have hS : pm_sig[m_X9_isPartner]? = some _ := rfl
  have hC : pm_cod[m_X9_isPartner]? = some _ := rfl
  refine ex_many (pc' := 3) (ls' := [.int a1]) (st' := [.int 3, .int 0, .int a1]) (mem' := mem) hS hC 3 rfl ?_
  refine ex_call (y' := m_X9_within) (rest := []) (ent := [.int a1, .int 0, .int 3]) hS hC rfl rfl rfl rfl rfl rfl ?_
  refine bk_X9_within_0 ?_
  show pm_Ex ro m_X9_isPartner 6 [.int a1] [.int (zb (¬ (a1 < (0 : Int32)) ∧ (¬ ((3 : Int32) < a1))))] mem Q
  exact ex_retz hS hC rfl rfl rfl (zb_01 _) k

set_option maxRecDepth 20000 in
theorem bk_X9_isNumber_0 {ro : pm_RO} {Q : Option Value → pm_M → Prop} {mem : pm_M} {a1 : Int32} (k : Q (some (.int (zb (¬ (a1 < (0 : Int32)) ∧ (¬ ((9999 : Int32) < a1)))))) mem) : pm_Ex ro m_X9_isNumber 0 [.int a1] [] mem Q := by
  have hS : pm_sig[m_X9_isNumber]? = some _ := rfl
  have hC : pm_cod[m_X9_isNumber]? = some _ := rfl
  refine ex_many (pc' := 5) (ls' := [.int a1]) (st' := [.int 9999, .int 0, .int a1]) (mem' := mem) hS hC 3 rfl ?_
  refine ex_call (y' := m_X9_within) (rest := []) (ent := [.int a1, .int 0, .int 9999]) hS hC rfl rfl rfl rfl rfl rfl ?_
  refine bk_X9_within_0 ?_
  show pm_Ex ro m_X9_isNumber 8 [.int a1] [.int (zb (¬ (a1 < (0 : Int32)) ∧ (¬ ((9999 : Int32) < a1))))] mem Q
  exact ex_retz hS hC rfl rfl rfl (zb_01 _) k

set_option maxRecDepth 20000 in
theorem bk_X9_isSheet_0 {ro : pm_RO} {Q : Option Value → pm_M → Prop} {mem : pm_M} {a1 : Int32} (k : Q (some (.int (zb (¬ (a1 < (0 : Int32)) ∧ (¬ ((3 : Int32) < a1)))))) mem) : pm_Ex ro m_X9_isSheet 0 [.int a1] [] mem Q := by
  have hS : pm_sig[m_X9_isSheet]? = some _ := rfl
  have hC : pm_cod[m_X9_isSheet]? = some _ := rfl
  refine ex_many (pc' := 3) (ls' := [.int a1]) (st' := [.int 3, .int 0, .int a1]) (mem' := mem) hS hC 3 rfl ?_
  refine ex_call (y' := m_X9_within) (rest := []) (ent := [.int a1, .int 0, .int 3]) hS hC rfl rfl rfl rfl rfl rfl ?_
  refine bk_X9_within_0 ?_
  show pm_Ex ro m_X9_isSheet 6 [.int a1] [.int (zb (¬ (a1 < (0 : Int32)) ∧ (¬ ((3 : Int32) < a1))))] mem Q
  exact ex_retz hS hC rfl rfl rfl (zb_01 _) k

set_option maxRecDepth 20000 in
theorem bk_X9_isForm_0 {ro : pm_RO} {Q : Option Value → pm_M → Prop} {mem : pm_M} {a1 : Int32} (k : Q (some (.int (zb (¬ (a1 < (0 : Int32)) ∧ (¬ ((2 : Int32) < a1)))))) mem) : pm_Ex ro m_X9_isForm 0 [.int a1] [] mem Q := by
  have hS : pm_sig[m_X9_isForm]? = some _ := rfl
  have hC : pm_cod[m_X9_isForm]? = some _ := rfl
  refine ex_many (pc' := 3) (ls' := [.int a1]) (st' := [.int 2, .int 0, .int a1]) (mem' := mem) hS hC 3 rfl ?_
  refine ex_call (y' := m_X9_within) (rest := []) (ent := [.int a1, .int 0, .int 2]) hS hC rfl rfl rfl rfl rfl rfl ?_
  refine bk_X9_within_0 ?_
  show pm_Ex ro m_X9_isForm 6 [.int a1] [.int (zb (¬ (a1 < (0 : Int32)) ∧ (¬ ((2 : Int32) < a1))))] mem Q
  exact ex_retz hS hC rfl rfl rfl (zb_01 _) k

set_option maxRecDepth 20000 in
theorem bk_X9_finding_0 {ro : pm_RO} {Q : Option Value → pm_M → Prop} {mem : pm_M} {a1 : Int32} (k : Q (some (.int ((-10) - a1))) (pm_up mem 0 10 a1)) : pm_Ex ro m_X9_finding 0 [.ref 0, .int a1] [] mem Q := by
  have hS : pm_sig[m_X9_finding]? = some _ := rfl
  have hC : pm_cod[m_X9_finding]? = some _ := rfl
  refine ex_many (pc' := 9) (ls' := [.ref 0, .int a1]) (st' := [.int ((-10) - a1)]) (mem' := pm_up mem 0 10 a1) hS hC 6 rfl ?_
  exact ex_ret (v := (some (.int ((-10) - a1)))) hS hC rfl rfl rfl k

set_option maxRecDepth 20000 in
theorem bk_X2_valueOf_0 {ro : pm_RO} {Q : Option Value → pm_M → Prop} {mem : pm_M} {a1 : Int32} (k : (pm_inb a1 4 = true) ∧ (Q (some (.int (mem 2 a1.toNatClampNeg))) mem)) : pm_Ex ro m_X2_valueOf 0 [.ref 1, .int a1] [] mem Q := by
  have hS : pm_sig[m_X2_valueOf]? = some _ := rfl
  have hC : pm_cod[m_X2_valueOf]? = some _ := rfl
  refine ex_many (pc' := 5) (ls' := [.ref 1, .int a1]) (st' := [.int a1, .ref 2]) (mem' := mem) hS hC 3 rfl ?_
  refine ex_grd (b := pm_inb a1 4) (pc' := 6) (ls' := [.ref 1, .int a1]) (st' := [.int (mem 2 a1.toNatClampNeg)]) (mem' := mem) hS hC rfl k.1 ?_
  replace k := k.2
  exact ex_ret (v := (some (.int (mem 2 a1.toNatClampNeg)))) hS hC rfl rfl rfl k

set_option maxRecDepth 20000 in
theorem bk_X2_change_0 {ro : pm_RO} {Q : Option Value → pm_M → Prop} {mem : pm_M} {a1 a2 : Int32} (k : (pm_inb a1 4 = true) ∧ (Q none (pm_up mem 2 a1.toNatClampNeg a2))) : pm_Ex ro m_X2_change 0 [.ref 1, .int a1, .int a2] [] mem Q := by
  have hS : pm_sig[m_X2_change]? = some _ := rfl
  have hC : pm_cod[m_X2_change]? = some _ := rfl
  refine ex_many (pc' := 6) (ls' := [.ref 1, .int a1, .int a2]) (st' := [.int a2, .int a1, .ref 2]) (mem' := mem) hS hC 4 rfl ?_
  refine ex_grd (b := pm_inb a1 4) (pc' := 7) (ls' := [.ref 1, .int a1, .int a2]) (st' := []) (mem' := pm_up mem 2 a1.toNatClampNeg a2) hS hC rfl k.1 ?_
  replace k := k.2
  exact ex_ret (v := none) hS hC rfl rfl rfl k

set_option maxRecDepth 20000 in
theorem bk_X2_paidFor_0 {ro : pm_RO} {Q : Option Value → pm_M → Prop} {mem : pm_M} {a1 : Int32} (k : pm_Ex ro m_X2_paidFor 35 [.ref 1, .int a1, .int (mem 2 0), .int (zb (¬ (¬ (mem 2 1) = 1))), .int 0, .int 1, .int a1, .int 0] [] mem Q) : pm_Ex ro m_X2_paidFor 0 [.ref 1, .int a1, .null, .null, .null, .null, .null, .null] [] mem Q := by
  have hS : pm_sig[m_X2_paidFor]? = some _ := rfl
  have hC : pm_cod[m_X2_paidFor]? = some _ := rfl
  refine ex_many (pc' := 14) (ls' := [.ref 1, .int a1, .int (mem 2 0), .null, .null, .null, .null, .null]) (st' := [.int 1, .int (mem 2 1)]) (mem' := mem) hS hC 10 rfl ?_
  have kp4 : pm_Ex ro m_X2_paidFor 22 [.ref 1, .int a1, .int (mem 2 0), .null, .null, .null, .null, .null] [.int (zb (¬ (¬ (mem 2 1) = 1)))] mem Q := by
    refine ex_many (pc' := 35) (ls' := [.ref 1, .int a1, .int (mem 2 0), .int (zb (¬ (¬ (mem 2 1) = 1))), .int 0, .int 1, .int a1, .int 0]) (st' := []) (mem' := mem) hS hC 9 rfl ?_
    exact k
  refine ex_br (P := ¬ (mem 2 1) = 1) (a := 21) (b := 17) (ls' := [.ref 1, .int a1, .int (mem 2 0), .null, .null, .null, .null, .null]) (st' := []) (mem' := mem) hS hC rfl (fun h => ?_) (fun h => ?_)
  · have kp4a : pm_Ex ro m_X2_paidFor 22 [.ref 1, .int a1, .int (mem 2 0), .null, .null, .null, .null, .null] [.int 0] mem Q := pm_phi1 (f := fun z0 => pm_Ex ro m_X2_paidFor 22 [.ref 1, .int a1, .int (mem 2 0), .null, .null, .null, .null, .null] [.int z0] mem Q) (zb_npos (h)) kp4
    refine ex_many (pc' := 22) (ls' := [.ref 1, .int a1, .int (mem 2 0), .null, .null, .null, .null, .null]) (st' := [.int 0]) (mem' := mem) hS hC 1 rfl ?_
    exact kp4a
  · have kp4b : pm_Ex ro m_X2_paidFor 22 [.ref 1, .int a1, .int (mem 2 0), .null, .null, .null, .null, .null] [.int 1] mem Q := pm_phi1 (f := fun z0 => pm_Ex ro m_X2_paidFor 22 [.ref 1, .int a1, .int (mem 2 0), .null, .null, .null, .null, .null] [.int z0] mem Q) (zb_nneg (h)) kp4
    refine ex_many (pc' := 22) (ls' := [.ref 1, .int a1, .int (mem 2 0), .null, .null, .null, .null, .null]) (st' := [.int 1]) (mem' := mem) hS hC 2 rfl ?_
    exact kp4b

set_option maxRecDepth 20000 in
theorem bk_X2_paidFor_35 {ro : pm_RO} {Q : Option Value → pm_M → Prop} {mem : pm_M} {x1 x2 x3 x4 x5 x6 x7 : Int32} (k : (31 ≤ x7 → Q (some (.int (x4 * x5))) mem) ∧ (¬ (31 ≤ x7) → (x6 ≤ 0 → Q (some (.int (x4 * x5))) mem) ∧ (¬ (x6 ≤ 0) → (x2 ≤ 1 → Q (some (.int (x4 * x5))) mem) ∧ (¬ (x2 ≤ 1) → (¬ x2 = 0) ∧ ((¬ x2 = 0) ∧ (pm_Ex ro m_X2_paidFor 35 [.ref 1, .int x1, .int x2, .int x3, .int ((x4 * x2) + (x6 - x6 / x2 * x2)), .int (if x3 = 0 then x5 else (if ¬ ((x4 * x2) + (x6 - x6 / x2 * x2)) = 0 then x5 else x5 * x2 : Int32) : Int32), .int (x6 / x2), .int (x7 + 1)] [] mem Q)))))) : pm_Ex ro m_X2_paidFor 35 [.ref 1, .int x1, .int x2, .int x3, .int x4, .int x5, .int x6, .int x7] [] mem Q := by
  have hS : pm_sig[m_X2_paidFor]? = some _ := rfl
  have hC : pm_cod[m_X2_paidFor]? = some _ := rfl
  refine ex_many (pc' := 39) (ls' := [.ref 1, .int x1, .int x2, .int x3, .int x4, .int x5, .int x6, .int x7]) (st' := [.int 31, .int x7]) (mem' := mem) hS hC 2 rfl ?_
  refine ex_br (P := 31 ≤ x7) (a := 90) (b := 42) (ls' := [.ref 1, .int x1, .int x2, .int x3, .int x4, .int x5, .int x6, .int x7]) (st' := []) (mem' := mem) hS hC rfl (fun h => ?_) (fun h => ?_)
  · replace k := k.1 (h)
    refine ex_many (pc' := 95) (ls' := [.ref 1, .int x1, .int x2, .int x3, .int x4, .int x5, .int x6, .int x7]) (st' := [.int (x4 * x5)]) (mem' := mem) hS hC 3 rfl ?_
    exact ex_ret (v := (some (.int (x4 * x5)))) hS hC rfl rfl rfl k
  · replace k := k.2 (h)
    refine ex_many (pc' := 44) (ls' := [.ref 1, .int x1, .int x2, .int x3, .int x4, .int x5, .int x6, .int x7]) (st' := [.int x6]) (mem' := mem) hS hC 1 rfl ?_
    refine ex_br (P := x6 ≤ 0) (a := 90) (b := 47) (ls' := [.ref 1, .int x1, .int x2, .int x3, .int x4, .int x5, .int x6, .int x7]) (st' := []) (mem' := mem) hS hC rfl (fun h => ?_) (fun h => ?_)
    · replace k := k.1 (h)
      refine ex_many (pc' := 95) (ls' := [.ref 1, .int x1, .int x2, .int x3, .int x4, .int x5, .int x6, .int x7]) (st' := [.int (x4 * x5)]) (mem' := mem) hS hC 3 rfl ?_
      exact ex_ret (v := (some (.int (x4 * x5)))) hS hC rfl rfl rfl k
    · replace k := k.2 (h)
      refine ex_many (pc' := 49) (ls' := [.ref 1, .int x1, .int x2, .int x3, .int x4, .int x5, .int x6, .int x7]) (st' := [.int 1, .int x2]) (mem' := mem) hS hC 2 rfl ?_
      refine ex_br (P := x2 ≤ 1) (a := 90) (b := 52) (ls' := [.ref 1, .int x1, .int x2, .int x3, .int x4, .int x5, .int x6, .int x7]) (st' := []) (mem' := mem) hS hC rfl (fun h => ?_) (fun h => ?_)
      · replace k := k.1 (h)
        refine ex_many (pc' := 95) (ls' := [.ref 1, .int x1, .int x2, .int x3, .int x4, .int x5, .int x6, .int x7]) (st' := [.int (x4 * x5)]) (mem' := mem) hS hC 3 rfl ?_
        exact ex_ret (v := (some (.int (x4 * x5)))) hS hC rfl rfl rfl k
      · replace k := k.2 (h)
        refine ex_many (pc' := 59) (ls' := [.ref 1, .int x1, .int x2, .int x3, .int x4, .int x5, .int x6, .int x7]) (st' := [.int x2, .int x6, .int (x4 * x2)]) (mem' := mem) hS hC 5 rfl ?_
        refine ex_grd (b := !(decide (x2 = 0))) (pc' := 60) (ls' := [.ref 1, .int x1, .int x2, .int x3, .int x4, .int x5, .int x6, .int x7]) (st' := [.int (x6 - x6 / x2 * x2), .int (x4 * x2)]) (mem' := mem) hS hC rfl (pm_nz k.1) ?_
        replace k := k.2
        refine ex_many (pc' := 66) (ls' := [.ref 1, .int x1, .int x2, .int x3, .int ((x4 * x2) + (x6 - x6 / x2 * x2)), .int x5, .int x6, .int x7]) (st' := [.int x2, .int x6]) (mem' := mem) hS hC 4 rfl ?_
        refine ex_grd (b := !(decide (x2 = 0))) (pc' := 67) (ls' := [.ref 1, .int x1, .int x2, .int x3, .int ((x4 * x2) + (x6 - x6 / x2 * x2)), .int x5, .int x6, .int x7]) (st' := [.int (x6 / x2)]) (mem' := mem) hS hC rfl (pm_nz k.1) ?_
        replace k := k.2
        refine ex_many (pc' := 70) (ls' := [.ref 1, .int x1, .int x2, .int x3, .int ((x4 * x2) + (x6 - x6 / x2 * x2)), .int x5, .int (x6 / x2), .int x7]) (st' := [.int x3]) (mem' := mem) hS hC 2 rfl ?_
        have kp6 : pm_Ex ro m_X2_paidFor 84 [.ref 1, .int x1, .int x2, .int x3, .int ((x4 * x2) + (x6 - x6 / x2 * x2)), .int (if x3 = 0 then x5 else (if ¬ ((x4 * x2) + (x6 - x6 / x2 * x2)) = 0 then x5 else x5 * x2 : Int32) : Int32), .int (x6 / x2), .int x7] [] mem Q := by
          refine ex_many (pc' := 35) (ls' := [.ref 1, .int x1, .int x2, .int x3, .int ((x4 * x2) + (x6 - x6 / x2 * x2)), .int (if x3 = 0 then x5 else (if ¬ ((x4 * x2) + (x6 - x6 / x2 * x2)) = 0 then x5 else x5 * x2 : Int32) : Int32), .int (x6 / x2), .int (x7 + 1)]) (st' := []) (mem' := mem) hS hC 2 rfl ?_
          exact k
        refine ex_br (P := x3 = 0) (a := 84) (b := 73) (ls' := [.ref 1, .int x1, .int x2, .int x3, .int ((x4 * x2) + (x6 - x6 / x2 * x2)), .int x5, .int (x6 / x2), .int x7]) (st' := []) (mem' := mem) hS hC rfl (fun h => ?_) (fun h => ?_)
        · have kp6a : pm_Ex ro m_X2_paidFor 84 [.ref 1, .int x1, .int x2, .int x3, .int ((x4 * x2) + (x6 - x6 / x2 * x2)), .int x5, .int (x6 / x2), .int x7] [] mem Q := pm_phi1 (f := fun z0 => pm_Ex ro m_X2_paidFor 84 [.ref 1, .int x1, .int x2, .int x3, .int ((x4 * x2) + (x6 - x6 / x2 * x2)), .int z0, .int (x6 / x2), .int x7] [] mem Q) (if_pos (h)) kp6
          exact kp6a
        · have kp6b : pm_Ex ro m_X2_paidFor 84 [.ref 1, .int x1, .int x2, .int x3, .int ((x4 * x2) + (x6 - x6 / x2 * x2)), .int (if ¬ ((x4 * x2) + (x6 - x6 / x2 * x2)) = 0 then x5 else x5 * x2 : Int32), .int (x6 / x2), .int x7] [] mem Q := pm_phi1 (f := fun z0 => pm_Ex ro m_X2_paidFor 84 [.ref 1, .int x1, .int x2, .int x3, .int ((x4 * x2) + (x6 - x6 / x2 * x2)), .int z0, .int (x6 / x2), .int x7] [] mem Q) (if_neg (h)) kp6
          have kp5 : pm_Ex ro m_X2_paidFor 84 [.ref 1, .int x1, .int x2, .int x3, .int ((x4 * x2) + (x6 - x6 / x2 * x2)), .int (if ¬ ((x4 * x2) + (x6 - x6 / x2 * x2)) = 0 then x5 else x5 * x2 : Int32), .int (x6 / x2), .int x7] [] mem Q := by
            exact kp6b
          refine ex_many (pc' := 75) (ls' := [.ref 1, .int x1, .int x2, .int x3, .int ((x4 * x2) + (x6 - x6 / x2 * x2)), .int x5, .int (x6 / x2), .int x7]) (st' := [.int ((x4 * x2) + (x6 - x6 / x2 * x2))]) (mem' := mem) hS hC 1 rfl ?_
          refine ex_br (P := ¬ ((x4 * x2) + (x6 - x6 / x2 * x2)) = 0) (a := 84) (b := 78) (ls' := [.ref 1, .int x1, .int x2, .int x3, .int ((x4 * x2) + (x6 - x6 / x2 * x2)), .int x5, .int (x6 / x2), .int x7]) (st' := []) (mem' := mem) hS hC rfl (fun h => ?_) (fun h => ?_)
          · have kp5a : pm_Ex ro m_X2_paidFor 84 [.ref 1, .int x1, .int x2, .int x3, .int ((x4 * x2) + (x6 - x6 / x2 * x2)), .int x5, .int (x6 / x2), .int x7] [] mem Q := pm_phi1 (f := fun z0 => pm_Ex ro m_X2_paidFor 84 [.ref 1, .int x1, .int x2, .int x3, .int ((x4 * x2) + (x6 - x6 / x2 * x2)), .int z0, .int (x6 / x2), .int x7] [] mem Q) (if_pos (h)) kp5
            exact kp5a
          · have kp5b : pm_Ex ro m_X2_paidFor 84 [.ref 1, .int x1, .int x2, .int x3, .int ((x4 * x2) + (x6 - x6 / x2 * x2)), .int (x5 * x2), .int (x6 / x2), .int x7] [] mem Q := pm_phi1 (f := fun z0 => pm_Ex ro m_X2_paidFor 84 [.ref 1, .int x1, .int x2, .int x3, .int ((x4 * x2) + (x6 - x6 / x2 * x2)), .int z0, .int (x6 / x2), .int x7] [] mem Q) (if_neg (h)) kp5
            refine ex_many (pc' := 84) (ls' := [.ref 1, .int x1, .int x2, .int x3, .int ((x4 * x2) + (x6 - x6 / x2 * x2)), .int (x5 * x2), .int (x6 / x2), .int x7]) (st' := []) (mem' := mem) hS hC 4 rfl ?_
            exact kp5b

set_option maxRecDepth 20000 in
theorem bk_X2_splitUp_0 {ro : pm_RO} {Q : Option Value → pm_M → Prop} {mem : pm_M} {a1 : Int32} (k : pm_Ex ro m_X2_splitUp 13 [.ref 1, .int a1, .ref 32, .int (mem 2 0), .int 0, .int a1] [] mem Q) : pm_Ex ro m_X2_splitUp 0 [.ref 1, .int a1, .ref 32, .null, .null, .null] [] mem Q := by
  have hS : pm_sig[m_X2_splitUp]? = some _ := rfl
  have hC : pm_cod[m_X2_splitUp]? = some _ := rfl
  refine ex_many (pc' := 13) (ls' := [.ref 1, .int a1, .ref 32, .int (mem 2 0), .int 0, .int a1]) (st' := []) (mem' := mem) hS hC 9 rfl ?_
  exact k

set_option maxRecDepth 20000 in
theorem bk_X2_splitUp_13 {ro : pm_RO} {Q : Option Value → pm_M → Prop} {mem : pm_M} {x1 x3 x4 x5 : Int32} (k : ((Int32.ofNat 31) ≤ x4 → Q (some (.int x4)) mem) ∧ (¬ ((Int32.ofNat 31) ≤ x4) → (x5 ≤ 0 → Q (some (.int x4)) mem) ∧ (¬ (x5 ≤ 0) → (x3 ≤ 1 → Q (some (.int x4)) mem) ∧ (¬ (x3 ≤ 1) → (¬ x3 = 0) ∧ ((pm_inb x4 31 = true) ∧ ((¬ x3 = 0) ∧ (pm_Ex ro m_X2_splitUp 13 [.ref 1, .int x1, .ref 32, .int x3, .int (x4 + 1), .int (x5 / x3)] [] (pm_up mem 32 x4.toNatClampNeg (x5 - x5 / x3 * x3)) Q))))))) : pm_Ex ro m_X2_splitUp 13 [.ref 1, .int x1, .ref 32, .int x3, .int x4, .int x5] [] mem Q := by
  have hS : pm_sig[m_X2_splitUp]? = some _ := rfl
  have hC : pm_cod[m_X2_splitUp]? = some _ := rfl
  refine ex_many (pc' := 17) (ls' := [.ref 1, .int x1, .ref 32, .int x3, .int x4, .int x5]) (st' := [.int (Int32.ofNat 31), .int x4]) (mem' := mem) hS hC 3 rfl ?_
  refine ex_br (P := (Int32.ofNat 31) ≤ x4) (a := 50) (b := 20) (ls' := [.ref 1, .int x1, .ref 32, .int x3, .int x4, .int x5]) (st' := []) (mem' := mem) hS hC rfl (fun h => ?_) (fun h => ?_)
  · replace k := k.1 (h)
    refine ex_many (pc' := 52) (ls' := [.ref 1, .int x1, .ref 32, .int x3, .int x4, .int x5]) (st' := [.int x4]) (mem' := mem) hS hC 1 rfl ?_
    exact ex_ret (v := (some (.int x4))) hS hC rfl rfl rfl k
  · replace k := k.2 (h)
    refine ex_many (pc' := 22) (ls' := [.ref 1, .int x1, .ref 32, .int x3, .int x4, .int x5]) (st' := [.int x5]) (mem' := mem) hS hC 1 rfl ?_
    refine ex_br (P := x5 ≤ 0) (a := 50) (b := 25) (ls' := [.ref 1, .int x1, .ref 32, .int x3, .int x4, .int x5]) (st' := []) (mem' := mem) hS hC rfl (fun h => ?_) (fun h => ?_)
    · replace k := k.1 (h)
      refine ex_many (pc' := 52) (ls' := [.ref 1, .int x1, .ref 32, .int x3, .int x4, .int x5]) (st' := [.int x4]) (mem' := mem) hS hC 1 rfl ?_
      exact ex_ret (v := (some (.int x4))) hS hC rfl rfl rfl k
    · replace k := k.2 (h)
      refine ex_many (pc' := 27) (ls' := [.ref 1, .int x1, .ref 32, .int x3, .int x4, .int x5]) (st' := [.int 1, .int x3]) (mem' := mem) hS hC 2 rfl ?_
      refine ex_br (P := x3 ≤ 1) (a := 50) (b := 30) (ls' := [.ref 1, .int x1, .ref 32, .int x3, .int x4, .int x5]) (st' := []) (mem' := mem) hS hC rfl (fun h => ?_) (fun h => ?_)
      · replace k := k.1 (h)
        refine ex_many (pc' := 52) (ls' := [.ref 1, .int x1, .ref 32, .int x3, .int x4, .int x5]) (st' := [.int x4]) (mem' := mem) hS hC 1 rfl ?_
        exact ex_ret (v := (some (.int x4))) hS hC rfl rfl rfl k
      · replace k := k.2 (h)
        refine ex_many (pc' := 36) (ls' := [.ref 1, .int x1, .ref 32, .int x3, .int x4, .int x5]) (st' := [.int x3, .int x5, .int x4, .ref 32]) (mem' := mem) hS hC 4 rfl ?_
        refine ex_grd (b := !(decide (x3 = 0))) (pc' := 37) (ls' := [.ref 1, .int x1, .ref 32, .int x3, .int x4, .int x5]) (st' := [.int (x5 - x5 / x3 * x3), .int x4, .ref 32]) (mem' := mem) hS hC rfl (pm_nz k.1) ?_
        replace k := k.2
        refine ex_grd (b := pm_inb x4 31) (pc' := 38) (ls' := [.ref 1, .int x1, .ref 32, .int x3, .int x4, .int x5]) (st' := []) (mem' := pm_up mem 32 x4.toNatClampNeg (x5 - x5 / x3 * x3)) hS hC rfl k.1 ?_
        replace k := k.2
        refine ex_many (pc' := 41) (ls' := [.ref 1, .int x1, .ref 32, .int x3, .int x4, .int x5]) (st' := [.int x3, .int x5]) (mem' := pm_up mem 32 x4.toNatClampNeg (x5 - x5 / x3 * x3)) hS hC 2 rfl ?_
        refine ex_grd (b := !(decide (x3 = 0))) (pc' := 42) (ls' := [.ref 1, .int x1, .ref 32, .int x3, .int x4, .int x5]) (st' := [.int (x5 / x3)]) (mem' := pm_up mem 32 x4.toNatClampNeg (x5 - x5 / x3 * x3)) hS hC rfl (pm_nz k.1) ?_
        replace k := k.2
        refine ex_many (pc' := 13) (ls' := [.ref 1, .int x1, .ref 32, .int x3, .int (x4 + 1), .int (x5 / x3)]) (st' := []) (mem' := pm_up mem 32 x4.toNatClampNeg (x5 - x5 / x3 * x3)) hS hC 3 rfl ?_
        exact k

set_option maxRecDepth 20000 in
theorem bk_X1_length_0 {ro : pm_RO} {Q : Option Value → pm_M → Prop} {mem : pm_M} (k : Q (some (.int (mem 3 2))) mem) : pm_Ex ro m_X1_length 0 [.ref 3] [] mem Q := by
  have hS : pm_sig[m_X1_length]? = some _ := rfl
  have hC : pm_cod[m_X1_length]? = some _ := rfl
  refine ex_many (pc' := 4) (ls' := [.ref 3]) (st' := [.int (mem 3 2)]) (mem' := mem) hS hC 2 rfl ?_
  exact ex_ret (v := (some (.int (mem 3 2)))) hS hC rfl rfl rfl k

set_option maxRecDepth 20000 in
theorem bk_X1_size_0 {ro : pm_RO} {Q : Option Value → pm_M → Prop} {mem : pm_M} (k : Q (some (.int (mem 3 3))) mem) : pm_Ex ro m_X1_size 0 [.ref 3] [] mem Q := by
  have hS : pm_sig[m_X1_size]? = some _ := rfl
  have hC : pm_cod[m_X1_size]? = some _ := rfl
  refine ex_many (pc' := 4) (ls' := [.ref 3]) (st' := [.int (mem 3 3)]) (mem' := mem) hS hC 2 rfl ?_
  exact ex_ret (v := (some (.int (mem 3 3)))) hS hC rfl rfl rfl k

set_option maxRecDepth 20000 in
theorem bk_X1_allBits_0 {ro : pm_RO} {Q : Option Value → pm_M → Prop} {mem : pm_M} (k : Q (some (.int (((1 : Int32) <<< ((mem 3 3) &&& 31)) - 1))) mem) : pm_Ex ro m_X1_allBits 0 [.ref 3] [] mem Q := by
  have hS : pm_sig[m_X1_allBits]? = some _ := rfl
  have hC : pm_cod[m_X1_allBits]? = some _ := rfl
  refine ex_many (pc' := 8) (ls' := [.ref 3]) (st' := [.int (((1 : Int32) <<< ((mem 3 3) &&& 31)) - 1)]) (mem' := mem) hS hC 6 rfl ?_
  exact ex_ret (v := (some (.int (((1 : Int32) <<< ((mem 3 3) &&& 31)) - 1)))) hS hC rfl rfl rfl k

set_option maxRecDepth 20000 in
theorem bk_X1_wantedBits_0 {ro : pm_RO} {Q : Option Value → pm_M → Prop} {mem : pm_M} (k : Q (some (.int (mem 3 4))) mem) : pm_Ex ro m_X1_wantedBits 0 [.ref 3] [] mem Q := by
  have hS : pm_sig[m_X1_wantedBits]? = some _ := rfl
  have hC : pm_cod[m_X1_wantedBits]? = some _ := rfl
  refine ex_many (pc' := 4) (ls' := [.ref 3]) (st' := [.int (mem 3 4)]) (mem' := mem) hS hC 2 rfl ?_
  exact ex_ret (v := (some (.int (mem 3 4)))) hS hC rfl rfl rfl k

set_option maxRecDepth 20000 in
theorem bk_X1_faultPlace_0 {ro : pm_RO} {Q : Option Value → pm_M → Prop} {mem : pm_M} (k : Q (some (.int (mem 3 5))) mem) : pm_Ex ro m_X1_faultPlace 0 [.ref 3] [] mem Q := by
  have hS : pm_sig[m_X1_faultPlace]? = some _ := rfl
  have hC : pm_cod[m_X1_faultPlace]? = some _ := rfl
  refine ex_many (pc' := 4) (ls' := [.ref 3]) (st' := [.int (mem 3 5)]) (mem' := mem) hS hC 2 rfl ?_
  exact ex_ret (v := (some (.int (mem 3 5)))) hS hC rfl rfl rfl k

set_option maxRecDepth 20000 in
theorem bk_X1_priceOf_0 {ro : pm_RO} {Q : Option Value → pm_M → Prop} {mem : pm_M} {a1 : Int32} (k : (pm_inb a1 8 = true) ∧ (Q (some (.int (mem 5 a1.toNatClampNeg))) mem)) : pm_Ex ro m_X1_priceOf 0 [.ref 3, .int a1] [] mem Q := by
  have hS : pm_sig[m_X1_priceOf]? = some _ := rfl
  have hC : pm_cod[m_X1_priceOf]? = some _ := rfl
  refine ex_many (pc' := 5) (ls' := [.ref 3, .int a1]) (st' := [.int a1, .ref 5]) (mem' := mem) hS hC 3 rfl ?_
  refine ex_grd (b := pm_inb a1 8) (pc' := 6) (ls' := [.ref 3, .int a1]) (st' := [.int (mem 5 a1.toNatClampNeg)]) (mem' := mem) hS hC rfl k.1 ?_
  replace k := k.2
  exact ex_ret (v := (some (.int (mem 5 a1.toNatClampNeg)))) hS hC rfl rfl rfl k

set_option maxRecDepth 20000 in
theorem bk_X1_isWanted_0 {ro : pm_RO} {Q : Option Value → pm_M → Prop} {mem : pm_M} {a1 : Int32} (k : Q (some (.int (zb (¬ (((mem 3 4) &&& ((1 : Int32) <<< (a1 &&& 31))) = 0))))) mem) : pm_Ex ro m_X1_isWanted 0 [.ref 3, .int a1] [] mem Q := by
  have hS : pm_sig[m_X1_isWanted]? = some _ := rfl
  have hC : pm_cod[m_X1_isWanted]? = some _ := rfl
  refine ex_many (pc' := 8) (ls' := [.ref 3, .int a1]) (st' := [.int ((mem 3 4) &&& ((1 : Int32) <<< (a1 &&& 31)))]) (mem' := mem) hS hC 6 rfl ?_
  have kp7 : pm_Ex ro m_X1_isWanted 16 [.ref 3, .int a1] [.int (zb (¬ (((mem 3 4) &&& ((1 : Int32) <<< (a1 &&& 31))) = 0)))] mem Q := by
    exact ex_retz hS hC rfl rfl rfl (zb_01 _) k
  refine ex_br (P := ((mem 3 4) &&& ((1 : Int32) <<< (a1 &&& 31))) = 0) (a := 15) (b := 11) (ls' := [.ref 3, .int a1]) (st' := []) (mem' := mem) hS hC rfl (fun h => ?_) (fun h => ?_)
  · have kp7a : pm_Ex ro m_X1_isWanted 16 [.ref 3, .int a1] [.int 0] mem Q := pm_phi1 (f := fun z0 => pm_Ex ro m_X1_isWanted 16 [.ref 3, .int a1] [.int z0] mem Q) (zb_npos (h)) kp7
    refine ex_many (pc' := 16) (ls' := [.ref 3, .int a1]) (st' := [.int 0]) (mem' := mem) hS hC 1 rfl ?_
    exact kp7a
  · have kp7b : pm_Ex ro m_X1_isWanted 16 [.ref 3, .int a1] [.int 1] mem Q := pm_phi1 (f := fun z0 => pm_Ex ro m_X1_isWanted 16 [.ref 3, .int a1] [.int z0] mem Q) (zb_nneg (h)) kp7
    refine ex_many (pc' := 16) (ls' := [.ref 3, .int a1]) (st' := [.int 1]) (mem' := mem) hS hC 2 rfl ?_
    exact kp7b

set_option maxRecDepth 20000 in
theorem bk_X1_byteAt_0 {ro : pm_RO} {Q : Option Value → pm_M → Prop} {mem : pm_M} {a1 : Int32} (k : (a1 < 0 → Q (some (.int (-1))) mem) ∧ (¬ (a1 < 0) → ((mem 3 2) ≤ a1 → Q (some (.int (-1))) mem) ∧ (¬ ((mem 3 2) ≤ a1) → (pm_inb a1 50 = true) ∧ (Q (some (.int (mem 4 a1.toNatClampNeg))) mem)))) : pm_Ex ro m_X1_byteAt 0 [.ref 3, .int a1] [] mem Q := by
  have hS : pm_sig[m_X1_byteAt]? = some _ := rfl
  have hC : pm_cod[m_X1_byteAt]? = some _ := rfl
  refine ex_many (pc' := 1) (ls' := [.ref 3, .int a1]) (st' := [.int a1]) (mem' := mem) hS hC 1 rfl ?_
  refine ex_br (P := a1 < 0) (a := 21) (b := 4) (ls' := [.ref 3, .int a1]) (st' := []) (mem' := mem) hS hC rfl (fun h => ?_) (fun h => ?_)
  · replace k := k.1 (h)
    refine ex_many (pc' := 22) (ls' := [.ref 3, .int a1]) (st' := [.int (-1)]) (mem' := mem) hS hC 1 rfl ?_
    exact ex_ret (v := (some (.int (-1)))) hS hC rfl rfl rfl k
  · replace k := k.2 (h)
    refine ex_many (pc' := 9) (ls' := [.ref 3, .int a1]) (st' := [.int (mem 3 2), .int a1]) (mem' := mem) hS hC 3 rfl ?_
    refine ex_br (P := (mem 3 2) ≤ a1) (a := 21) (b := 12) (ls' := [.ref 3, .int a1]) (st' := []) (mem' := mem) hS hC rfl (fun h => ?_) (fun h => ?_)
    · replace k := k.1 (h)
      refine ex_many (pc' := 22) (ls' := [.ref 3, .int a1]) (st' := [.int (-1)]) (mem' := mem) hS hC 1 rfl ?_
      exact ex_ret (v := (some (.int (-1)))) hS hC rfl rfl rfl k
    · replace k := k.2 (h)
      refine ex_many (pc' := 17) (ls' := [.ref 3, .int a1]) (st' := [.int a1, .ref 4]) (mem' := mem) hS hC 3 rfl ?_
      refine ex_grd (b := pm_inb a1 50) (pc' := 18) (ls' := [.ref 3, .int a1]) (st' := [.int (mem 4 a1.toNatClampNeg)]) (mem' := mem) hS hC rfl k.1 ?_
      replace k := k.2
      refine ex_many (pc' := 22) (ls' := [.ref 3, .int a1]) (st' := [.int (mem 4 a1.toNatClampNeg)]) (mem' := mem) hS hC 1 rfl ?_
      exact ex_ret (v := (some (.int (mem 4 a1.toNatClampNeg)))) hS hC rfl rfl rfl k

set_option maxRecDepth 20000 in
theorem bk_X1_endOfFigures_0 {ro : pm_RO} {Q : Option Value → pm_M → Prop} {mem : pm_M} {a1 : Int32} (k : pm_Ex ro m_X1_endOfFigures 2 [.ref 3, .int a1, .int a1] [] mem Q) : pm_Ex ro m_X1_endOfFigures 0 [.ref 3, .int a1, .null] [] mem Q := by
  have hS : pm_sig[m_X1_endOfFigures]? = some _ := rfl
  have hC : pm_cod[m_X1_endOfFigures]? = some _ := rfl
  refine ex_many (pc' := 2) (ls' := [.ref 3, .int a1, .int a1]) (st' := []) (mem' := mem) hS hC 2 rfl ?_
  exact k

set_option maxRecDepth 20000 in
theorem bk_X1_endOfFigures_2 {ro : pm_RO} {Q : Option Value → pm_M → Prop} {mem : pm_M} {x1 x2 : Int32} (k : ((x1 + 3) ≤ x2 → Q (some (.int x2)) mem) ∧ (¬ ((x1 + 3) ≤ x2) → pm_Ex ro m_X1_byteAt 0 [.ref 3, .int x2] [] mem (fun v m => pm_Ex ro m_X1_endOfFigures 14 [.ref 3, .int x1, .int x2] (v.toList ++ []) m Q))) : pm_Ex ro m_X1_endOfFigures 2 [.ref 3, .int x1, .int x2] [] mem Q := by
  have hS : pm_sig[m_X1_endOfFigures]? = some _ := rfl
  have hC : pm_cod[m_X1_endOfFigures]? = some _ := rfl
  refine ex_many (pc' := 6) (ls' := [.ref 3, .int x1, .int x2]) (st' := [.int (x1 + 3), .int x2]) (mem' := mem) hS hC 4 rfl ?_
  refine ex_br (P := (x1 + 3) ≤ x2) (a := 35) (b := 9) (ls' := [.ref 3, .int x1, .int x2]) (st' := []) (mem' := mem) hS hC rfl (fun h => ?_) (fun h => ?_)
  · replace k := k.1 (h)
    refine ex_many (pc' := 36) (ls' := [.ref 3, .int x1, .int x2]) (st' := [.int x2]) (mem' := mem) hS hC 1 rfl ?_
    exact ex_ret (v := (some (.int x2))) hS hC rfl rfl rfl k
  · replace k := k.2 (h)
    refine ex_many (pc' := 11) (ls' := [.ref 3, .int x1, .int x2]) (st' := [.int x2, .ref 3]) (mem' := mem) hS hC 2 rfl ?_
    refine ex_call (y' := m_X1_byteAt) (rest := []) (ent := [.ref 3, .int x2]) hS hC rfl rfl rfl rfl rfl rfl ?_
    exact k

set_option maxRecDepth 20000 in
theorem bk_X1_endOfFigures_14 {ro : pm_RO} {Q : Option Value → pm_M → Prop} {mem : pm_M} {x1 x2 s0 : Int32} (k : (s0 < 48 → Q (some (.int x2)) mem) ∧ (¬ (s0 < 48) → pm_Ex ro m_X1_byteAt 0 [.ref 3, .int x2] [] mem (fun v m => pm_Ex ro m_X1_endOfFigures 24 [.ref 3, .int x1, .int x2] (v.toList ++ []) m Q))) : pm_Ex ro m_X1_endOfFigures 14 [.ref 3, .int x1, .int x2] [.int s0] mem Q := by
  have hS : pm_sig[m_X1_endOfFigures]? = some _ := rfl
  have hC : pm_cod[m_X1_endOfFigures]? = some _ := rfl
  refine ex_many (pc' := 16) (ls' := [.ref 3, .int x1, .int x2]) (st' := [.int 48, .int s0]) (mem' := mem) hS hC 1 rfl ?_
  refine ex_br (P := s0 < 48) (a := 35) (b := 19) (ls' := [.ref 3, .int x1, .int x2]) (st' := []) (mem' := mem) hS hC rfl (fun h => ?_) (fun h => ?_)
  · replace k := k.1 (h)
    refine ex_many (pc' := 36) (ls' := [.ref 3, .int x1, .int x2]) (st' := [.int x2]) (mem' := mem) hS hC 1 rfl ?_
    exact ex_ret (v := (some (.int x2))) hS hC rfl rfl rfl k
  · replace k := k.2 (h)
    refine ex_many (pc' := 21) (ls' := [.ref 3, .int x1, .int x2]) (st' := [.int x2, .ref 3]) (mem' := mem) hS hC 2 rfl ?_
    refine ex_call (y' := m_X1_byteAt) (rest := []) (ent := [.ref 3, .int x2]) hS hC rfl rfl rfl rfl rfl rfl ?_
    exact k

set_option maxRecDepth 20000 in
theorem bk_X1_endOfFigures_24 {ro : pm_RO} {Q : Option Value → pm_M → Prop} {mem : pm_M} {x1 x2 s0 : Int32} (k : (57 < s0 → Q (some (.int x2)) mem) ∧ (¬ (57 < s0) → pm_Ex ro m_X1_endOfFigures 2 [.ref 3, .int x1, .int (x2 + 1)] [] mem Q)) : pm_Ex ro m_X1_endOfFigures 24 [.ref 3, .int x1, .int x2] [.int s0] mem Q := by
  have hS : pm_sig[m_X1_endOfFigures]? = some _ := rfl
  have hC : pm_cod[m_X1_endOfFigures]? = some _ := rfl
  refine ex_many (pc' := 26) (ls' := [.ref 3, .int x1, .int x2]) (st' := [.int 57, .int s0]) (mem' := mem) hS hC 1 rfl ?_
  refine ex_br (P := 57 < s0) (a := 35) (b := 29) (ls' := [.ref 3, .int x1, .int x2]) (st' := []) (mem' := mem) hS hC rfl (fun h => ?_) (fun h => ?_)
  · replace k := k.1 (h)
    refine ex_many (pc' := 36) (ls' := [.ref 3, .int x1, .int x2]) (st' := [.int x2]) (mem' := mem) hS hC 1 rfl ?_
    exact ex_ret (v := (some (.int x2))) hS hC rfl rfl rfl k
  · replace k := k.2 (h)
    refine ex_many (pc' := 2) (ls' := [.ref 3, .int x1, .int (x2 + 1)]) (st' := []) (mem' := mem) hS hC 2 rfl ?_
    exact k

set_option maxRecDepth 20000 in
theorem bk_X1_numberBetween_0 {ro : pm_RO} {Q : Option Value → pm_M → Prop} {mem : pm_M} {a1 a2 : Int32} (k : pm_Ex ro m_X1_numberBetween 5 [.ref 3, .int a1, .int a2, .int 0, .int a1] [] mem Q) : pm_Ex ro m_X1_numberBetween 0 [.ref 3, .int a1, .int a2, .null, .null] [] mem Q := by
  have hS : pm_sig[m_X1_numberBetween]? = some _ := rfl
  have hC : pm_cod[m_X1_numberBetween]? = some _ := rfl
  refine ex_many (pc' := 5) (ls' := [.ref 3, .int a1, .int a2, .int 0, .int a1]) (st' := []) (mem' := mem) hS hC 4 rfl ?_
  exact k

set_option maxRecDepth 20000 in
theorem bk_X1_numberBetween_5 {ro : pm_RO} {Q : Option Value → pm_M → Prop} {mem : pm_M} {x1 x2 x3 x4 : Int32} (k : (x2 ≤ x4 → Q (some (.int x3)) mem) ∧ (¬ (x2 ≤ x4) → pm_Ex ro m_X1_byteAt 0 [.ref 3, .int x4] [] mem (fun v m => pm_Ex ro m_X1_numberBetween 21 [.ref 3, .int x1, .int x2, .int x3, .int x4] (v.toList ++ [.int (x3 * 10)]) m Q))) : pm_Ex ro m_X1_numberBetween 5 [.ref 3, .int x1, .int x2, .int x3, .int x4] [] mem Q := by
  have hS : pm_sig[m_X1_numberBetween]? = some _ := rfl
  have hC : pm_cod[m_X1_numberBetween]? = some _ := rfl
  refine ex_many (pc' := 8) (ls' := [.ref 3, .int x1, .int x2, .int x3, .int x4]) (st' := [.int x2, .int x4]) (mem' := mem) hS hC 2 rfl ?_
  refine ex_br (P := x2 ≤ x4) (a := 32) (b := 11) (ls' := [.ref 3, .int x1, .int x2, .int x3, .int x4]) (st' := []) (mem' := mem) hS hC rfl (fun h => ?_) (fun h => ?_)
  · replace k := k.1 (h)
    refine ex_many (pc' := 33) (ls' := [.ref 3, .int x1, .int x2, .int x3, .int x4]) (st' := [.int x3]) (mem' := mem) hS hC 1 rfl ?_
    exact ex_ret (v := (some (.int x3))) hS hC rfl rfl rfl k
  · replace k := k.2 (h)
    refine ex_many (pc' := 18) (ls' := [.ref 3, .int x1, .int x2, .int x3, .int x4]) (st' := [.int x4, .ref 3, .int (x3 * 10)]) (mem' := mem) hS hC 5 rfl ?_
    refine ex_call (y' := m_X1_byteAt) (rest := [.int (x3 * 10)]) (ent := [.ref 3, .int x4]) hS hC rfl rfl rfl rfl rfl rfl ?_
    exact k

set_option maxRecDepth 20000 in
theorem bk_X1_numberBetween_21 {ro : pm_RO} {Q : Option Value → pm_M → Prop} {mem : pm_M} {x1 x2 x3 x4 s0 s1 : Int32} (k : pm_Ex ro m_X1_numberBetween 5 [.ref 3, .int x1, .int x2, .int ((s1 + s0) - 48), .int (x4 + 1)] [] mem Q) : pm_Ex ro m_X1_numberBetween 21 [.ref 3, .int x1, .int x2, .int x3, .int x4] [.int s0, .int s1] mem Q := by
  have hS : pm_sig[m_X1_numberBetween]? = some _ := rfl
  have hC : pm_cod[m_X1_numberBetween]? = some _ := rfl
  refine ex_many (pc' := 5) (ls' := [.ref 3, .int x1, .int x2, .int ((s1 + s0) - 48), .int (x4 + 1)]) (st' := []) (mem' := mem) hS hC 6 rfl ?_
  exact k

set_option maxRecDepth 20000 in
theorem bk_X1_understandGoods_0 {ro : pm_RO} {Q : Option Value → pm_M → Prop} {mem : pm_M} (k : pm_Ex ro m_X1_understandGoods 4 [.ref 3, .int 0, .int 0, .null, .null, .null] [] mem Q) : pm_Ex ro m_X1_understandGoods 0 [.ref 3, .null, .null, .null, .null, .null] [] mem Q := by
  have hS : pm_sig[m_X1_understandGoods]? = some _ := rfl
  have hC : pm_cod[m_X1_understandGoods]? = some _ := rfl
  refine ex_many (pc' := 4) (ls' := [.ref 3, .int 0, .int 0, .null, .null, .null]) (st' := []) (mem' := mem) hS hC 4 rfl ?_
  exact k

set_option maxRecDepth 20000 in
theorem bk_X1_understandGoods_4 {ro : pm_RO} {Q : Option Value → pm_M → Prop} {mem : pm_M} {x1 x2 : Int32} {d3 d4 d5 : Value} (k : (8 ≤ x2 → Q (some (.int x1)) mem) ∧ (¬ (8 ≤ x2) → pm_Ex ro m_X1_endOfFigures 0 [.ref 3, .int x1, .null] [] mem (fun v m => pm_Ex ro m_X1_understandGoods 15 [.ref 3, .int x1, .int x2, d3, d4, d5] (v.toList ++ []) m Q))) : pm_Ex ro m_X1_understandGoods 4 [.ref 3, .int x1, .int x2, d3, d4, d5] [] mem Q := by
  have hS : pm_sig[m_X1_understandGoods]? = some _ := rfl
  have hC : pm_cod[m_X1_understandGoods]? = some _ := rfl
  refine ex_many (pc' := 7) (ls' := [.ref 3, .int x1, .int x2, d3, d4, d5]) (st' := [.int 8, .int x2]) (mem' := mem) hS hC 2 rfl ?_
  refine ex_br (P := 8 ≤ x2) (a := 130) (b := 10) (ls' := [.ref 3, .int x1, .int x2, d3, d4, d5]) (st' := []) (mem' := mem) hS hC rfl (fun h => ?_) (fun h => ?_)
  · replace k := k.1 (h)
    refine ex_many (pc' := 131) (ls' := [.ref 3, .int x1, .int x2, d3, d4, d5]) (st' := [.int x1]) (mem' := mem) hS hC 1 rfl ?_
    exact ex_ret (v := (some (.int x1))) hS hC rfl rfl rfl k
  · replace k := k.2 (h)
    refine ex_many (pc' := 12) (ls' := [.ref 3, .int x1, .int x2, d3, d4, d5]) (st' := [.int x1, .ref 3]) (mem' := mem) hS hC 2 rfl ?_
    refine ex_call (y' := m_X1_endOfFigures) (rest := []) (ent := [.ref 3, .int x1, .null]) hS hC rfl rfl rfl rfl rfl rfl ?_
    exact k

set_option maxRecDepth 20000 in
theorem bk_X1_understandGoods_15 {ro : pm_RO} {Q : Option Value → pm_M → Prop} {mem : pm_M} {x1 x2 s0 : Int32} {d3 d4 d5 : Value} (k : pm_Ex ro m_X1_numberBetween 0 [.ref 3, .int x1, .int s0, .null, .null] [] mem (fun v m => pm_Ex ro m_X1_understandGoods 22 [.ref 3, .int x1, .int x2, .int s0, d4, d5] (v.toList ++ []) m Q)) : pm_Ex ro m_X1_understandGoods 15 [.ref 3, .int x1, .int x2, d3, d4, d5] [.int s0] mem Q := by
  have hS : pm_sig[m_X1_understandGoods]? = some _ := rfl
  have hC : pm_cod[m_X1_understandGoods]? = some _ := rfl
  refine ex_many (pc' := 19) (ls' := [.ref 3, .int x1, .int x2, .int s0, d4, d5]) (st' := [.int s0, .int x1, .ref 3]) (mem' := mem) hS hC 4 rfl ?_
  refine ex_call (y' := m_X1_numberBetween) (rest := []) (ent := [.ref 3, .int x1, .int s0, .null, .null]) hS hC rfl rfl rfl rfl rfl rfl ?_
  exact k

set_option maxRecDepth 20000 in
theorem bk_X1_understandGoods_22 {ro : pm_RO} {Q : Option Value → pm_M → Prop} {mem : pm_M} {x1 x2 x3 s0 : Int32} {d4 d5 : Value} (k : (¬ s0 = 0 → pm_Ex ro m_X1_byteAt 0 [.ref 3, .int x3] [] mem (fun v m => pm_Ex ro m_X1_understandGoods 36 [.ref 3, .int x1, .int x2, .int x3, .int s0, d5] (v.toList ++ []) m Q)) ∧ (¬ (¬ s0 = 0) → Q (some (.int x1)) mem)) : pm_Ex ro m_X1_understandGoods 22 [.ref 3, .int x1, .int x2, .int x3, d4, d5] [.int s0] mem Q := by
  have hS : pm_sig[m_X1_understandGoods]? = some _ := rfl
  have hC : pm_cod[m_X1_understandGoods]? = some _ := rfl
  refine ex_many (pc' := 26) (ls' := [.ref 3, .int x1, .int x2, .int x3, .int s0, d5]) (st' := [.int s0]) (mem' := mem) hS hC 2 rfl ?_
  refine ex_br (P := ¬ s0 = 0) (a := 31) (b := 29) (ls' := [.ref 3, .int x1, .int x2, .int x3, .int s0, d5]) (st' := []) (mem' := mem) hS hC rfl (fun h => ?_) (fun h => ?_)
  · replace k := k.1 (h)
    refine ex_many (pc' := 33) (ls' := [.ref 3, .int x1, .int x2, .int x3, .int s0, d5]) (st' := [.int x3, .ref 3]) (mem' := mem) hS hC 2 rfl ?_
    refine ex_call (y' := m_X1_byteAt) (rest := []) (ent := [.ref 3, .int x3]) hS hC rfl rfl rfl rfl rfl rfl ?_
    exact k
  · replace k := k.2 (h)
    refine ex_many (pc' := 30) (ls' := [.ref 3, .int x1, .int x2, .int x3, .int s0, d5]) (st' := [.int x1]) (mem' := mem) hS hC 1 rfl ?_
    exact ex_ret (v := (some (.int x1))) hS hC rfl rfl rfl k

set_option maxRecDepth 20000 in
theorem bk_X1_understandGoods_36 {ro : pm_RO} {Q : Option Value → pm_M → Prop} {mem : pm_M} {x1 x2 x3 x4 s0 : Int32} {d5 : Value} (k : (s0 = 119 → (pm_inb x2 8 = true) ∧ ((¬ (x3 + 1) = ((pm_up (pm_up (pm_up mem 5 x2.toNatClampNeg x4) 3 4 ((mem 3 4) ||| (if ¬ s0 = 119 then 0 else (1 : Int32) <<< (x2 &&& 31) : Int32))) 3 3 (x2 + 1)) 3 2) → pm_Ex ro m_X1_byteAt 0 [.ref 3, .int (x3 + 1)] [] (pm_up (pm_up (pm_up mem 5 x2.toNatClampNeg x4) 3 4 ((mem 3 4) ||| (if ¬ s0 = 119 then 0 else (1 : Int32) <<< (x2 &&& 31) : Int32))) 3 3 (x2 + 1)) (fun v m => pm_Ex ro m_X1_understandGoods 111 [.ref 3, .int x1, .int x2, .int x3, .int x4, .int s0] (v.toList ++ []) m Q)) ∧ (¬ (¬ (x3 + 1) = ((pm_up (pm_up (pm_up mem 5 x2.toNatClampNeg x4) 3 4 ((mem 3 4) ||| (if ¬ s0 = 119 then 0 else (1 : Int32) <<< (x2 &&& 31) : Int32))) 3 3 (x2 + 1)) 3 2)) → Q (some (.int (-1))) (pm_up (pm_up (pm_up mem 5 x2.toNatClampNeg x4) 3 4 ((mem 3 4) ||| (if ¬ s0 = 119 then 0 else (1 : Int32) <<< (x2 &&& 31) : Int32))) 3 3 (x2 + 1))))) ∧ (¬ (s0 = 119) → (s0 = 116 → (pm_inb x2 8 = true) ∧ ((¬ (x3 + 1) = ((pm_up (pm_up (pm_up mem 5 x2.toNatClampNeg x4) 3 4 ((mem 3 4) ||| (if ¬ s0 = 119 then 0 else (1 : Int32) <<< (x2 &&& 31) : Int32))) 3 3 (x2 + 1)) 3 2) → pm_Ex ro m_X1_byteAt 0 [.ref 3, .int (x3 + 1)] [] (pm_up (pm_up (pm_up mem 5 x2.toNatClampNeg x4) 3 4 ((mem 3 4) ||| (if ¬ s0 = 119 then 0 else (1 : Int32) <<< (x2 &&& 31) : Int32))) 3 3 (x2 + 1)) (fun v m => pm_Ex ro m_X1_understandGoods 111 [.ref 3, .int x1, .int x2, .int x3, .int x4, .int s0] (v.toList ++ []) m Q)) ∧ (¬ (¬ (x3 + 1) = ((pm_up (pm_up (pm_up mem 5 x2.toNatClampNeg x4) 3 4 ((mem 3 4) ||| (if ¬ s0 = 119 then 0 else (1 : Int32) <<< (x2 &&& 31) : Int32))) 3 3 (x2 + 1)) 3 2)) → Q (some (.int (-1))) (pm_up (pm_up (pm_up mem 5 x2.toNatClampNeg x4) 3 4 ((mem 3 4) ||| (if ¬ s0 = 119 then 0 else (1 : Int32) <<< (x2 &&& 31) : Int32))) 3 3 (x2 + 1))))) ∧ (¬ (s0 = 116) → Q (some (.int x3)) mem))) : pm_Ex ro m_X1_understandGoods 36 [.ref 3, .int x1, .int x2, .int x3, .int x4, d5] [.int s0] mem Q := by
  have hS : pm_sig[m_X1_understandGoods]? = some _ := rfl
  have hC : pm_cod[m_X1_understandGoods]? = some _ := rfl
  refine ex_many (pc' := 42) (ls' := [.ref 3, .int x1, .int x2, .int x3, .int x4, .int s0]) (st' := [.int 119, .int s0]) (mem' := mem) hS hC 3 rfl ?_
  refine ex_br (P := s0 = 119) (a := 54) (b := 45) (ls' := [.ref 3, .int x1, .int x2, .int x3, .int x4, .int s0]) (st' := []) (mem' := mem) hS hC rfl (fun h => ?_) (fun h => ?_)
  · replace k := k.1 (h)
    refine ex_many (pc' := 61) (ls' := [.ref 3, .int x1, .int x2, .int x3, .int x4, .int s0]) (st' := [.int x4, .int x2, .ref 5]) (mem' := mem) hS hC 4 rfl ?_
    refine ex_grd (b := pm_inb x2 8) (pc' := 62) (ls' := [.ref 3, .int x1, .int x2, .int x3, .int x4, .int s0]) (st' := []) (mem' := pm_up mem 5 x2.toNatClampNeg x4) hS hC rfl k.1 ?_
    replace k := k.2
    refine ex_many (pc' := 71) (ls' := [.ref 3, .int x1, .int x2, .int x3, .int x4, .int s0]) (st' := [.int 119, .int s0, .int (mem 3 4), .ref 3]) (mem' := pm_up mem 5 x2.toNatClampNeg x4) hS hC 5 rfl ?_
    have kp8 : pm_Ex ro m_X1_understandGoods 81 [.ref 3, .int x1, .int x2, .int x3, .int x4, .int s0] [.int (if ¬ s0 = 119 then 0 else (1 : Int32) <<< (x2 &&& 31) : Int32), .int (mem 3 4), .ref 3] (pm_up mem 5 x2.toNatClampNeg x4) Q := by
      refine ex_many (pc' := 99) (ls' := [.ref 3, .int x1, .int x2, .int x3, .int x4, .int s0]) (st' := [.int ((pm_up (pm_up (pm_up mem 5 x2.toNatClampNeg x4) 3 4 ((mem 3 4) ||| (if ¬ s0 = 119 then 0 else (1 : Int32) <<< (x2 &&& 31) : Int32))) 3 3 (x2 + 1)) 3 2), .int (x3 + 1)]) (mem' := pm_up (pm_up (pm_up mem 5 x2.toNatClampNeg x4) 3 4 ((mem 3 4) ||| (if ¬ s0 = 119 then 0 else (1 : Int32) <<< (x2 &&& 31) : Int32))) 3 3 (x2 + 1)) hS hC 12 rfl ?_
      refine ex_br (P := ¬ (x3 + 1) = ((pm_up (pm_up (pm_up mem 5 x2.toNatClampNeg x4) 3 4 ((mem 3 4) ||| (if ¬ s0 = 119 then 0 else (1 : Int32) <<< (x2 &&& 31) : Int32))) 3 3 (x2 + 1)) 3 2)) (a := 104) (b := 102) (ls' := [.ref 3, .int x1, .int x2, .int x3, .int x4, .int s0]) (st' := []) (mem' := pm_up (pm_up (pm_up mem 5 x2.toNatClampNeg x4) 3 4 ((mem 3 4) ||| (if ¬ s0 = 119 then 0 else (1 : Int32) <<< (x2 &&& 31) : Int32))) 3 3 (x2 + 1)) hS hC rfl (fun h => ?_) (fun h => ?_)
      · replace k := k.1 (h)
        refine ex_many (pc' := 108) (ls' := [.ref 3, .int x1, .int x2, .int x3, .int x4, .int s0]) (st' := [.int (x3 + 1), .ref 3]) (mem' := pm_up (pm_up (pm_up mem 5 x2.toNatClampNeg x4) 3 4 ((mem 3 4) ||| (if ¬ s0 = 119 then 0 else (1 : Int32) <<< (x2 &&& 31) : Int32))) 3 3 (x2 + 1)) hS hC 4 rfl ?_
        refine ex_call (y' := m_X1_byteAt) (rest := []) (ent := [.ref 3, .int (x3 + 1)]) hS hC rfl rfl rfl rfl rfl rfl ?_
        exact k
      · replace k := k.2 (h)
        refine ex_many (pc' := 103) (ls' := [.ref 3, .int x1, .int x2, .int x3, .int x4, .int s0]) (st' := [.int (-1)]) (mem' := pm_up (pm_up (pm_up mem 5 x2.toNatClampNeg x4) 3 4 ((mem 3 4) ||| (if ¬ s0 = 119 then 0 else (1 : Int32) <<< (x2 &&& 31) : Int32))) 3 3 (x2 + 1)) hS hC 1 rfl ?_
        exact ex_ret (v := (some (.int (-1)))) hS hC rfl rfl rfl k
    refine ex_br (P := ¬ s0 = 119) (a := 80) (b := 74) (ls' := [.ref 3, .int x1, .int x2, .int x3, .int x4, .int s0]) (st' := [.int (mem 3 4), .ref 3]) (mem' := pm_up mem 5 x2.toNatClampNeg x4) hS hC rfl (fun h => ?_) (fun h => ?_)
    · have kp8a : pm_Ex ro m_X1_understandGoods 81 [.ref 3, .int x1, .int x2, .int x3, .int x4, .int s0] [.int 0, .int (mem 3 4), .ref 3] (pm_up mem 5 x2.toNatClampNeg x4) Q := pm_phi1 (f := fun z0 => pm_Ex ro m_X1_understandGoods 81 [.ref 3, .int x1, .int x2, .int x3, .int x4, .int s0] [.int z0, .int (mem 3 4), .ref 3] (pm_up mem 5 x2.toNatClampNeg x4) Q) (if_pos (h)) kp8
      refine ex_many (pc' := 81) (ls' := [.ref 3, .int x1, .int x2, .int x3, .int x4, .int s0]) (st' := [.int 0, .int (mem 3 4), .ref 3]) (mem' := pm_up mem 5 x2.toNatClampNeg x4) hS hC 1 rfl ?_
      exact kp8a
    · have kp8b : pm_Ex ro m_X1_understandGoods 81 [.ref 3, .int x1, .int x2, .int x3, .int x4, .int s0] [.int ((1 : Int32) <<< (x2 &&& 31)), .int (mem 3 4), .ref 3] (pm_up mem 5 x2.toNatClampNeg x4) Q := pm_phi1 (f := fun z0 => pm_Ex ro m_X1_understandGoods 81 [.ref 3, .int x1, .int x2, .int x3, .int x4, .int s0] [.int z0, .int (mem 3 4), .ref 3] (pm_up mem 5 x2.toNatClampNeg x4) Q) (if_neg (h)) kp8
      refine ex_many (pc' := 81) (ls' := [.ref 3, .int x1, .int x2, .int x3, .int x4, .int s0]) (st' := [.int ((1 : Int32) <<< (x2 &&& 31)), .int (mem 3 4), .ref 3]) (mem' := pm_up mem 5 x2.toNatClampNeg x4) hS hC 4 rfl ?_
      exact kp8b
  · replace k := k.2 (h)
    refine ex_many (pc' := 49) (ls' := [.ref 3, .int x1, .int x2, .int x3, .int x4, .int s0]) (st' := [.int 116, .int s0]) (mem' := mem) hS hC 2 rfl ?_
    refine ex_br (P := s0 = 116) (a := 54) (b := 52) (ls' := [.ref 3, .int x1, .int x2, .int x3, .int x4, .int s0]) (st' := []) (mem' := mem) hS hC rfl (fun h => ?_) (fun h => ?_)
    · replace k := k.1 (h)
      refine ex_many (pc' := 61) (ls' := [.ref 3, .int x1, .int x2, .int x3, .int x4, .int s0]) (st' := [.int x4, .int x2, .ref 5]) (mem' := mem) hS hC 4 rfl ?_
      refine ex_grd (b := pm_inb x2 8) (pc' := 62) (ls' := [.ref 3, .int x1, .int x2, .int x3, .int x4, .int s0]) (st' := []) (mem' := pm_up mem 5 x2.toNatClampNeg x4) hS hC rfl k.1 ?_
      replace k := k.2
      refine ex_many (pc' := 71) (ls' := [.ref 3, .int x1, .int x2, .int x3, .int x4, .int s0]) (st' := [.int 119, .int s0, .int (mem 3 4), .ref 3]) (mem' := pm_up mem 5 x2.toNatClampNeg x4) hS hC 5 rfl ?_
      have kp9 : pm_Ex ro m_X1_understandGoods 81 [.ref 3, .int x1, .int x2, .int x3, .int x4, .int s0] [.int (if ¬ s0 = 119 then 0 else (1 : Int32) <<< (x2 &&& 31) : Int32), .int (mem 3 4), .ref 3] (pm_up mem 5 x2.toNatClampNeg x4) Q := by
        refine ex_many (pc' := 99) (ls' := [.ref 3, .int x1, .int x2, .int x3, .int x4, .int s0]) (st' := [.int ((pm_up (pm_up (pm_up mem 5 x2.toNatClampNeg x4) 3 4 ((mem 3 4) ||| (if ¬ s0 = 119 then 0 else (1 : Int32) <<< (x2 &&& 31) : Int32))) 3 3 (x2 + 1)) 3 2), .int (x3 + 1)]) (mem' := pm_up (pm_up (pm_up mem 5 x2.toNatClampNeg x4) 3 4 ((mem 3 4) ||| (if ¬ s0 = 119 then 0 else (1 : Int32) <<< (x2 &&& 31) : Int32))) 3 3 (x2 + 1)) hS hC 12 rfl ?_
        refine ex_br (P := ¬ (x3 + 1) = ((pm_up (pm_up (pm_up mem 5 x2.toNatClampNeg x4) 3 4 ((mem 3 4) ||| (if ¬ s0 = 119 then 0 else (1 : Int32) <<< (x2 &&& 31) : Int32))) 3 3 (x2 + 1)) 3 2)) (a := 104) (b := 102) (ls' := [.ref 3, .int x1, .int x2, .int x3, .int x4, .int s0]) (st' := []) (mem' := pm_up (pm_up (pm_up mem 5 x2.toNatClampNeg x4) 3 4 ((mem 3 4) ||| (if ¬ s0 = 119 then 0 else (1 : Int32) <<< (x2 &&& 31) : Int32))) 3 3 (x2 + 1)) hS hC rfl (fun h => ?_) (fun h => ?_)
        · replace k := k.1 (h)
          refine ex_many (pc' := 108) (ls' := [.ref 3, .int x1, .int x2, .int x3, .int x4, .int s0]) (st' := [.int (x3 + 1), .ref 3]) (mem' := pm_up (pm_up (pm_up mem 5 x2.toNatClampNeg x4) 3 4 ((mem 3 4) ||| (if ¬ s0 = 119 then 0 else (1 : Int32) <<< (x2 &&& 31) : Int32))) 3 3 (x2 + 1)) hS hC 4 rfl ?_
          refine ex_call (y' := m_X1_byteAt) (rest := []) (ent := [.ref 3, .int (x3 + 1)]) hS hC rfl rfl rfl rfl rfl rfl ?_
          exact k
        · replace k := k.2 (h)
          refine ex_many (pc' := 103) (ls' := [.ref 3, .int x1, .int x2, .int x3, .int x4, .int s0]) (st' := [.int (-1)]) (mem' := pm_up (pm_up (pm_up mem 5 x2.toNatClampNeg x4) 3 4 ((mem 3 4) ||| (if ¬ s0 = 119 then 0 else (1 : Int32) <<< (x2 &&& 31) : Int32))) 3 3 (x2 + 1)) hS hC 1 rfl ?_
          exact ex_ret (v := (some (.int (-1)))) hS hC rfl rfl rfl k
      refine ex_br (P := ¬ s0 = 119) (a := 80) (b := 74) (ls' := [.ref 3, .int x1, .int x2, .int x3, .int x4, .int s0]) (st' := [.int (mem 3 4), .ref 3]) (mem' := pm_up mem 5 x2.toNatClampNeg x4) hS hC rfl (fun h => ?_) (fun h => ?_)
      · have kp9a : pm_Ex ro m_X1_understandGoods 81 [.ref 3, .int x1, .int x2, .int x3, .int x4, .int s0] [.int 0, .int (mem 3 4), .ref 3] (pm_up mem 5 x2.toNatClampNeg x4) Q := pm_phi1 (f := fun z0 => pm_Ex ro m_X1_understandGoods 81 [.ref 3, .int x1, .int x2, .int x3, .int x4, .int s0] [.int z0, .int (mem 3 4), .ref 3] (pm_up mem 5 x2.toNatClampNeg x4) Q) (if_pos (h)) kp9
        refine ex_many (pc' := 81) (ls' := [.ref 3, .int x1, .int x2, .int x3, .int x4, .int s0]) (st' := [.int 0, .int (mem 3 4), .ref 3]) (mem' := pm_up mem 5 x2.toNatClampNeg x4) hS hC 1 rfl ?_
        exact kp9a
      · have kp9b : pm_Ex ro m_X1_understandGoods 81 [.ref 3, .int x1, .int x2, .int x3, .int x4, .int s0] [.int ((1 : Int32) <<< (x2 &&& 31)), .int (mem 3 4), .ref 3] (pm_up mem 5 x2.toNatClampNeg x4) Q := pm_phi1 (f := fun z0 => pm_Ex ro m_X1_understandGoods 81 [.ref 3, .int x1, .int x2, .int x3, .int x4, .int s0] [.int z0, .int (mem 3 4), .ref 3] (pm_up mem 5 x2.toNatClampNeg x4) Q) (if_neg (h)) kp9
        refine ex_many (pc' := 81) (ls' := [.ref 3, .int x1, .int x2, .int x3, .int x4, .int s0]) (st' := [.int ((1 : Int32) <<< (x2 &&& 31)), .int (mem 3 4), .ref 3]) (mem' := pm_up mem 5 x2.toNatClampNeg x4) hS hC 4 rfl ?_
        exact kp9b
    · replace k := k.2 (h)
      refine ex_many (pc' := 53) (ls' := [.ref 3, .int x1, .int x2, .int x3, .int x4, .int s0]) (st' := [.int x3]) (mem' := mem) hS hC 1 rfl ?_
      exact ex_ret (v := (some (.int x3))) hS hC rfl rfl rfl k

set_option maxRecDepth 20000 in
theorem bk_X1_understandGoods_111 {ro : pm_RO} {Q : Option Value → pm_M → Prop} {mem : pm_M} {x1 x2 x3 x4 x5 s0 : Int32} (k : (s0 = 59 → pm_Ex ro m_X1_understandGoods 4 [.ref 3, .int (x3 + 2), .int (x2 + 1), .int x3, .int x4, .int x5] [] mem Q) ∧ (¬ (s0 = 59) → Q (some (.int (x3 + 1))) mem)) : pm_Ex ro m_X1_understandGoods 111 [.ref 3, .int x1, .int x2, .int x3, .int x4, .int x5] [.int s0] mem Q := by
  have hS : pm_sig[m_X1_understandGoods]? = some _ := rfl
  have hC : pm_cod[m_X1_understandGoods]? = some _ := rfl
  refine ex_many (pc' := 113) (ls' := [.ref 3, .int x1, .int x2, .int x3, .int x4, .int x5]) (st' := [.int 59, .int s0]) (mem' := mem) hS hC 1 rfl ?_
  refine ex_br (P := s0 = 59) (a := 120) (b := 116) (ls' := [.ref 3, .int x1, .int x2, .int x3, .int x4, .int x5]) (st' := []) (mem' := mem) hS hC rfl (fun h => ?_) (fun h => ?_)
  · replace k := k.1 (h)
    refine ex_many (pc' := 4) (ls' := [.ref 3, .int (x3 + 2), .int (x2 + 1), .int x3, .int x4, .int x5]) (st' := []) (mem' := mem) hS hC 6 rfl ?_
    exact k
  · replace k := k.2 (h)
    refine ex_many (pc' := 119) (ls' := [.ref 3, .int x1, .int x2, .int x3, .int x4, .int x5]) (st' := [.int (x3 + 1)]) (mem' := mem) hS hC 3 rfl ?_
    exact ex_ret (v := (some (.int (x3 + 1)))) hS hC rfl rfl rfl k

set_option maxRecDepth 20000 in
theorem bk_X1_understand_0 {ro : pm_RO} {Q : Option Value → pm_M → Prop} {mem : pm_M} (k : (¬ ((pm_up (pm_up mem 3 3 0) 3 4 0) 3 2) = 0 → pm_Ex ro m_X1_understandGoods 0 [.ref 3, .null, .null, .null, .null, .null] [] (pm_up (pm_up mem 3 3 0) 3 4 0) (fun v m => pm_Ex ro m_X1_understand 26 [.ref 3] (v.toList ++ [.ref 3]) m Q)) ∧ (¬ (¬ ((pm_up (pm_up mem 3 3 0) 3 4 0) 3 2) = 0) → (((pm_up (pm_up (pm_up mem 3 3 0) 3 4 0) 3 5 (-1)) 3 5) = (-1) → Q none (pm_up (pm_up (pm_up mem 3 3 0) 3 4 0) 3 5 (-1))) ∧ (¬ (((pm_up (pm_up (pm_up mem 3 3 0) 3 4 0) 3 5 (-1)) 3 5) = (-1)) → Q none (pm_up (pm_up (pm_up (pm_up (pm_up mem 3 3 0) 3 4 0) 3 5 (-1)) 3 3 0) 3 4 0)))) : pm_Ex ro m_X1_understand 0 [.ref 3] [] mem Q := by
  have hS : pm_sig[m_X1_understand]? = some _ := rfl
  have hC : pm_cod[m_X1_understand]? = some _ := rfl
  refine ex_many (pc' := 15) (ls' := [.ref 3]) (st' := [.int ((pm_up (pm_up mem 3 3 0) 3 4 0) 3 2), .ref 3]) (mem' := pm_up (pm_up mem 3 3 0) 3 4 0) hS hC 9 rfl ?_
  refine ex_br (P := ¬ ((pm_up (pm_up mem 3 3 0) 3 4 0) 3 2) = 0) (a := 22) (b := 18) (ls' := [.ref 3]) (st' := [.ref 3]) (mem' := pm_up (pm_up mem 3 3 0) 3 4 0) hS hC rfl (fun h => ?_) (fun h => ?_)
  · replace k := k.1 (h)
    refine ex_many (pc' := 23) (ls' := [.ref 3]) (st' := [.ref 3, .ref 3]) (mem' := pm_up (pm_up mem 3 3 0) 3 4 0) hS hC 1 rfl ?_
    refine ex_call (y' := m_X1_understandGoods) (rest := [.ref 3]) (ent := [.ref 3, .null, .null, .null, .null, .null]) hS hC rfl rfl rfl rfl rfl rfl ?_
    exact k
  · replace k := k.2 (h)
    refine ex_many (pc' := 34) (ls' := [.ref 3]) (st' := [.int (-1), .int ((pm_up (pm_up (pm_up mem 3 3 0) 3 4 0) 3 5 (-1)) 3 5)]) (mem' := pm_up (pm_up (pm_up mem 3 3 0) 3 4 0) 3 5 (-1)) hS hC 6 rfl ?_
    refine ex_br (P := ((pm_up (pm_up (pm_up mem 3 3 0) 3 4 0) 3 5 (-1)) 3 5) = (-1)) (a := 47) (b := 37) (ls' := [.ref 3]) (st' := []) (mem' := pm_up (pm_up (pm_up mem 3 3 0) 3 4 0) 3 5 (-1)) hS hC rfl (fun h => ?_) (fun h => ?_)
    · replace k := k.1 (h)
      exact ex_ret (v := none) hS hC rfl rfl rfl k
    · replace k := k.2 (h)
      refine ex_many (pc' := 47) (ls' := [.ref 3]) (st' := []) (mem' := pm_up (pm_up (pm_up (pm_up (pm_up mem 3 3 0) 3 4 0) 3 5 (-1)) 3 3 0) 3 4 0) hS hC 6 rfl ?_
      exact ex_ret (v := none) hS hC rfl rfl rfl k

set_option maxRecDepth 20000 in
theorem bk_X1_understand_26 {ro : pm_RO} {Q : Option Value → pm_M → Prop} {mem : pm_M} {s0 : Int32} (k : (((pm_up mem 3 5 s0) 3 5) = (-1) → Q none (pm_up mem 3 5 s0)) ∧ (¬ (((pm_up mem 3 5 s0) 3 5) = (-1)) → Q none (pm_up (pm_up (pm_up mem 3 5 s0) 3 3 0) 3 4 0))) : pm_Ex ro m_X1_understand 26 [.ref 3] [.int s0, .ref 3] mem Q := by
  have hS : pm_sig[m_X1_understand]? = some _ := rfl
  have hC : pm_cod[m_X1_understand]? = some _ := rfl
  refine ex_many (pc' := 34) (ls' := [.ref 3]) (st' := [.int (-1), .int ((pm_up mem 3 5 s0) 3 5)]) (mem' := pm_up mem 3 5 s0) hS hC 4 rfl ?_
  refine ex_br (P := ((pm_up mem 3 5 s0) 3 5) = (-1)) (a := 47) (b := 37) (ls' := [.ref 3]) (st' := []) (mem' := pm_up mem 3 5 s0) hS hC rfl (fun h => ?_) (fun h => ?_)
  · replace k := k.1 (h)
    exact ex_ret (v := none) hS hC rfl rfl rfl k
  · replace k := k.2 (h)
    refine ex_many (pc' := 47) (ls' := [.ref 3]) (st' := []) (mem' := pm_up (pm_up (pm_up mem 3 5 s0) 3 3 0) 3 4 0) hS hC 6 rfl ?_
    exact ex_ret (v := none) hS hC rfl rfl rfl k

set_option maxRecDepth 20000 in
theorem bk_X1_append_0 {ro : pm_RO} {Q : Option Value → pm_M → Prop} {mem : pm_M} {a1 : Int32} (k : (50 ≤ (mem 3 2) → pm_Ex ro m_X1_understand 0 [.ref 3] [] mem (fun v m => pm_Ex ro m_X1_append 33 [.ref 3, .int a1] (v.toList ++ []) m Q)) ∧ (¬ (50 ≤ (mem 3 2)) → (pm_inb (mem 3 2) 50 = true) ∧ (pm_Ex ro m_X1_understand 0 [.ref 3] [] (pm_up (pm_up mem 4 ((mem 3 2).toNatClampNeg) a1) 3 2 ((mem 3 2) + 1)) (fun v m => pm_Ex ro m_X1_append 33 [.ref 3, .int a1] (v.toList ++ []) m Q)))) : pm_Ex ro m_X1_append 0 [.ref 3, .int a1] [] mem Q := by
  have hS : pm_sig[m_X1_append]? = some _ := rfl
  have hC : pm_cod[m_X1_append]? = some _ := rfl
  refine ex_many (pc' := 6) (ls' := [.ref 3, .int a1]) (st' := [.int 50, .int (mem 3 2)]) (mem' := mem) hS hC 3 rfl ?_
  refine ex_br (P := 50 ≤ (mem 3 2)) (a := 29) (b := 9) (ls' := [.ref 3, .int a1]) (st' := []) (mem' := mem) hS hC rfl (fun h => ?_) (fun h => ?_)
  · replace k := k.1 (h)
    refine ex_many (pc' := 30) (ls' := [.ref 3, .int a1]) (st' := [.ref 3]) (mem' := mem) hS hC 1 rfl ?_
    refine ex_call (y' := m_X1_understand) (rest := []) (ent := [.ref 3]) hS hC rfl rfl rfl rfl rfl rfl ?_
    exact k
  · replace k := k.2 (h)
    refine ex_many (pc' := 18) (ls' := [.ref 3, .int a1]) (st' := [.int a1, .int (mem 3 2), .ref 4]) (mem' := mem) hS hC 5 rfl ?_
    refine ex_grd (b := pm_inb (mem 3 2) 50) (pc' := 19) (ls' := [.ref 3, .int a1]) (st' := []) (mem' := pm_up mem 4 ((mem 3 2).toNatClampNeg) a1) hS hC rfl k.1 ?_
    replace k := k.2
    refine ex_many (pc' := 30) (ls' := [.ref 3, .int a1]) (st' := [.ref 3]) (mem' := pm_up (pm_up mem 4 ((mem 3 2).toNatClampNeg) a1) 3 2 ((mem 3 2) + 1)) hS hC 7 rfl ?_
    refine ex_call (y' := m_X1_understand) (rest := []) (ent := [.ref 3]) hS hC rfl rfl rfl rfl rfl rfl ?_
    exact k

set_option maxRecDepth 20000 in
theorem bk_X1_append_33 {ro : pm_RO} {Q : Option Value → pm_M → Prop} {mem : pm_M} {x1 : Int32} (k : Q none mem) : pm_Ex ro m_X1_append 33 [.ref 3, .int x1] [] mem Q := by
  have hS : pm_sig[m_X1_append]? = some _ := rfl
  have hC : pm_cod[m_X1_append]? = some _ := rfl
  exact ex_ret (v := none) hS hC rfl rfl rfl k

set_option maxRecDepth 20000 in
theorem bk_X1_clear_0 {ro : pm_RO} {Q : Option Value → pm_M → Prop} {mem : pm_M} (k : pm_Ex ro m_X1_understand 0 [.ref 3] [] (pm_up mem 3 2 0) (fun v m => pm_Ex ro m_X1_clear 9 [.ref 3] (v.toList ++ []) m Q)) : pm_Ex ro m_X1_clear 0 [.ref 3] [] mem Q := by
  have hS : pm_sig[m_X1_clear]? = some _ := rfl
  have hC : pm_cod[m_X1_clear]? = some _ := rfl
  refine ex_many (pc' := 6) (ls' := [.ref 3]) (st' := [.ref 3]) (mem' := pm_up mem 3 2 0) hS hC 4 rfl ?_
  refine ex_call (y' := m_X1_understand) (rest := []) (ent := [.ref 3]) hS hC rfl rfl rfl rfl rfl rfl ?_
  exact k

set_option maxRecDepth 20000 in
theorem bk_X1_clear_9 {ro : pm_RO} {Q : Option Value → pm_M → Prop} {mem : pm_M} (k : Q none mem) : pm_Ex ro m_X1_clear 9 [.ref 3] [] mem Q := by
  have hS : pm_sig[m_X1_clear]? = some _ := rfl
  have hC : pm_cod[m_X1_clear]? = some _ := rfl
  exact ex_ret (v := none) hS hC rfl rfl rfl k

set_option maxRecDepth 20000 in
theorem bk_X9_isGood_0 {ro : pm_RO} {Q : Option Value → pm_M → Prop} {mem : pm_M} {a1 : Int32} (k : Q (some (.int (zb (¬ (a1 < (0 : Int32)) ∧ (¬ (((mem 3 3) - 1) < a1)))))) mem) : pm_Ex ro m_X9_isGood 0 [.ref 0, .int a1] [] mem Q := by
  have hS : pm_sig[m_X9_isGood]? = some _ := rfl
  have hC : pm_cod[m_X9_isGood]? = some _ := rfl
  refine ex_many (pc' := 6) (ls' := [.ref 0, .int a1]) (st' := [.ref 3, .int 0, .int a1]) (mem' := mem) hS hC 4 rfl ?_
  refine ex_call (y' := m_X1_size) (rest := [.int 0, .int a1]) (ent := [.ref 3]) hS hC rfl rfl rfl rfl rfl rfl ?_
  refine bk_X1_size_0 ?_
  show pm_Ex ro m_X9_isGood 9 [.ref 0, .int a1] [.int (mem 3 3), .int 0, .int a1] mem Q
  refine ex_many (pc' := 11) (ls' := [.ref 0, .int a1]) (st' := [.int ((mem 3 3) - 1), .int 0, .int a1]) (mem' := mem) hS hC 2 rfl ?_
  refine ex_call (y' := m_X9_within) (rest := []) (ent := [.int a1, .int 0, .int ((mem 3 3) - 1)]) hS hC rfl rfl rfl rfl rfl rfl ?_
  refine bk_X9_within_0 ?_
  show pm_Ex ro m_X9_isGood 14 [.ref 0, .int a1] [.int (zb (¬ (a1 < (0 : Int32)) ∧ (¬ (((mem 3 3) - 1) < a1))))] mem Q
  exact ex_retz hS hC rfl rfl rfl (zb_01 _) k

set_option maxRecDepth 20000 in
theorem bk_X7_forget_0 {ro : pm_RO} {Q : Option Value → pm_M → Prop} {mem : pm_M} (k : Q none (pm_up (pm_up mem 6 6 0) 6 7 0)) : pm_Ex ro m_X7_forget 0 [.ref 6] [] mem Q := by
  have hS : pm_sig[m_X7_forget]? = some _ := rfl
  have hC : pm_cod[m_X7_forget]? = some _ := rfl
  refine ex_many (pc' := 10) (ls' := [.ref 6]) (st' := []) (mem' := pm_up (pm_up mem 6 6 0) 6 7 0) hS hC 6 rfl ?_
  exact ex_ret (v := none) hS hC rfl rfl rfl k

set_option maxRecDepth 20000 in
theorem bk_X7_reckonBills_0 {ro : pm_RO} {Q : Option Value → pm_M → Prop} {mem : pm_M} (k : ((mem 6 6) = 0 → pm_Ex ro m_X7_reckonBills 10 [.ref 6, .int 0, .null, .null] [] mem Q) ∧ (¬ ((mem 6 6) = 0) → Q none mem)) : pm_Ex ro m_X7_reckonBills 0 [.ref 6, .null, .null, .null] [] mem Q := by
  have hS : pm_sig[m_X7_reckonBills]? = some _ := rfl
  have hC : pm_cod[m_X7_reckonBills]? = some _ := rfl
  refine ex_many (pc' := 4) (ls' := [.ref 6, .null, .null, .null]) (st' := [.int (mem 6 6)]) (mem' := mem) hS hC 2 rfl ?_
  refine ex_br (P := (mem 6 6) = 0) (a := 8) (b := 7) (ls' := [.ref 6, .null, .null, .null]) (st' := []) (mem' := mem) hS hC rfl (fun h => ?_) (fun h => ?_)
  · replace k := k.1 (h)
    refine ex_many (pc' := 10) (ls' := [.ref 6, .int 0, .null, .null]) (st' := []) (mem' := mem) hS hC 2 rfl ?_
    exact k
  · replace k := k.2 (h)
    exact ex_ret (v := none) hS hC rfl rfl rfl k

set_option maxRecDepth 20000 in
theorem bk_X7_reckonBills_10 {ro : pm_RO} {Q : Option Value → pm_M → Prop} {mem : pm_M} {x1 : Int32} {d2 d3 : Value} (k : ((mem 3 3) ≤ x1 → Q none (pm_up mem 6 6 1)) ∧ (¬ ((mem 3 3) ≤ x1) → pm_Ex ro m_X7_reckonBills 27 [.ref 6, .int x1, .int ((1 : Int32) <<< (x1 &&& 31)), .int 0] [] mem Q)) : pm_Ex ro m_X7_reckonBills 10 [.ref 6, .int x1, d2, d3] [] mem Q := by
  have hS : pm_sig[m_X7_reckonBills]? = some _ := rfl
  have hC : pm_cod[m_X7_reckonBills]? = some _ := rfl
  refine ex_many (pc' := 15) (ls' := [.ref 6, .int x1, d2, d3]) (st' := [.ref 3, .int x1]) (mem' := mem) hS hC 3 rfl ?_
  refine ex_call (y' := m_X1_size) (rest := [.int x1]) (ent := [.ref 3]) hS hC rfl rfl rfl rfl rfl rfl ?_
  refine bk_X1_size_0 ?_
  show pm_Ex ro m_X7_reckonBills 18 [.ref 6, .int x1, d2, d3] [.int (mem 3 3), .int x1] mem Q
  refine ex_br (P := (mem 3 3) ≤ x1) (a := 90) (b := 21) (ls' := [.ref 6, .int x1, d2, d3]) (st' := []) (mem' := mem) hS hC rfl (fun h => ?_) (fun h => ?_)
  · replace k := k.1 (h)
    refine ex_many (pc' := 95) (ls' := [.ref 6, .int x1, d2, d3]) (st' := []) (mem' := pm_up mem 6 6 1) hS hC 3 rfl ?_
    exact ex_ret (v := none) hS hC rfl rfl rfl k
  · replace k := k.2 (h)
    refine ex_many (pc' := 27) (ls' := [.ref 6, .int x1, .int ((1 : Int32) <<< (x1 &&& 31)), .int 0]) (st' := []) (mem' := mem) hS hC 6 rfl ?_
    exact k

set_option maxRecDepth 20000 in
theorem bk_X7_reckonBills_27 {ro : pm_RO} {Q : Option Value → pm_M → Prop} {mem : pm_M} {x1 x2 x3 : Int32} (k : (x2 ≤ x3 → pm_Ex ro m_X7_reckonBills 10 [.ref 6, .int (x1 + 1), .int x2, .int x3] [] mem Q) ∧ (¬ (x2 ≤ x3) → (pm_inb x3 256 = true) ∧ ((pm_inb x1 8 = true) ∧ ((pm_inb (x2 + x3) 256 = true) ∧ ((pm_inb (x2 + x3) 256 = true) ∧ (pm_Ex ro m_X2_paidFor 0 [.ref 1, .int ((pm_up mem 7 ((x2 + x3).toNatClampNeg) ((mem 7 x3.toNatClampNeg) + (mem 5 x1.toNatClampNeg))) 7 ((x2 + x3).toNatClampNeg)), .null, .null, .null, .null, .null, .null] [] (pm_up mem 7 ((x2 + x3).toNatClampNeg) ((mem 7 x3.toNatClampNeg) + (mem 5 x1.toNatClampNeg))) (fun v m => pm_Ex ro m_X7_reckonBills 77 [.ref 6, .int x1, .int x2, .int x3] (v.toList ++ [.int (x2 + x3), .ref 8]) m Q))))))) : pm_Ex ro m_X7_reckonBills 27 [.ref 6, .int x1, .int x2, .int x3] [] mem Q := by
  have hS : pm_sig[m_X7_reckonBills]? = some _ := rfl
  have hC : pm_cod[m_X7_reckonBills]? = some _ := rfl
  refine ex_many (pc' := 29) (ls' := [.ref 6, .int x1, .int x2, .int x3]) (st' := [.int x2, .int x3]) (mem' := mem) hS hC 2 rfl ?_
  refine ex_br (P := x2 ≤ x3) (a := 84) (b := 32) (ls' := [.ref 6, .int x1, .int x2, .int x3]) (st' := []) (mem' := mem) hS hC rfl (fun h => ?_) (fun h => ?_)
  · replace k := k.1 (h)
    refine ex_many (pc' := 10) (ls' := [.ref 6, .int (x1 + 1), .int x2, .int x3]) (st' := []) (mem' := mem) hS hC 2 rfl ?_
    exact k
  · replace k := k.2 (h)
    refine ex_many (pc' := 44) (ls' := [.ref 6, .int x1, .int x2, .int x3]) (st' := [.int x3, .ref 7, .int (x2 + x3), .ref 7]) (mem' := mem) hS hC 8 rfl ?_
    refine ex_grd (b := pm_inb x3 256) (pc' := 45) (ls' := [.ref 6, .int x1, .int x2, .int x3]) (st' := [.int (mem 7 x3.toNatClampNeg), .int (x2 + x3), .ref 7]) (mem' := mem) hS hC rfl k.1 ?_
    replace k := k.2
    refine ex_many (pc' := 50) (ls' := [.ref 6, .int x1, .int x2, .int x3]) (st' := [.int x1, .ref 3, .int (mem 7 x3.toNatClampNeg), .int (x2 + x3), .ref 7]) (mem' := mem) hS hC 3 rfl ?_
    refine ex_call (y' := m_X1_priceOf) (rest := [.int (mem 7 x3.toNatClampNeg), .int (x2 + x3), .ref 7]) (ent := [.ref 3, .int x1]) hS hC rfl rfl rfl rfl rfl rfl ?_
    refine bk_X1_priceOf_0 ⟨k.1, ?_⟩
    replace k := k.2
    show pm_Ex ro m_X7_reckonBills 53 [.ref 6, .int x1, .int x2, .int x3] [.int (mem 5 x1.toNatClampNeg), .int (mem 7 x3.toNatClampNeg), .int (x2 + x3), .ref 7] mem Q
    refine ex_many (pc' := 54) (ls' := [.ref 6, .int x1, .int x2, .int x3]) (st' := [.int ((mem 7 x3.toNatClampNeg) + (mem 5 x1.toNatClampNeg)), .int (x2 + x3), .ref 7]) (mem' := mem) hS hC 1 rfl ?_
    refine ex_grd (b := pm_inb (x2 + x3) 256) (pc' := 55) (ls' := [.ref 6, .int x1, .int x2, .int x3]) (st' := []) (mem' := pm_up mem 7 ((x2 + x3).toNatClampNeg) ((mem 7 x3.toNatClampNeg) + (mem 5 x1.toNatClampNeg))) hS hC rfl k.1 ?_
    replace k := k.2
    refine ex_many (pc' := 73) (ls' := [.ref 6, .int x1, .int x2, .int x3]) (st' := [.int (x2 + x3), .ref 7, .ref 1, .int (x2 + x3), .ref 8]) (mem' := pm_up mem 7 ((x2 + x3).toNatClampNeg) ((mem 7 x3.toNatClampNeg) + (mem 5 x1.toNatClampNeg))) hS hC 12 rfl ?_
    refine ex_grd (b := pm_inb (x2 + x3) 256) (pc' := 74) (ls' := [.ref 6, .int x1, .int x2, .int x3]) (st' := [.int ((pm_up mem 7 ((x2 + x3).toNatClampNeg) ((mem 7 x3.toNatClampNeg) + (mem 5 x1.toNatClampNeg))) 7 ((x2 + x3).toNatClampNeg)), .ref 1, .int (x2 + x3), .ref 8]) (mem' := pm_up mem 7 ((x2 + x3).toNatClampNeg) ((mem 7 x3.toNatClampNeg) + (mem 5 x1.toNatClampNeg))) hS hC rfl k.1 ?_
    replace k := k.2
    refine ex_call (y' := m_X2_paidFor) (rest := [.int (x2 + x3), .ref 8]) (ent := [.ref 1, .int ((pm_up mem 7 ((x2 + x3).toNatClampNeg) ((mem 7 x3.toNatClampNeg) + (mem 5 x1.toNatClampNeg))) 7 ((x2 + x3).toNatClampNeg)), .null, .null, .null, .null, .null, .null]) hS hC rfl rfl rfl rfl rfl rfl ?_
    exact k

set_option maxRecDepth 20000 in
theorem bk_X7_reckonBills_77 {ro : pm_RO} {Q : Option Value → pm_M → Prop} {mem : pm_M} {x1 x2 x3 s0 s1 : Int32} (k : (pm_inb s1 256 = true) ∧ (pm_Ex ro m_X7_reckonBills 27 [.ref 6, .int x1, .int x2, .int (x3 + 1)] [] (pm_up mem 8 s1.toNatClampNeg s0) Q)) : pm_Ex ro m_X7_reckonBills 77 [.ref 6, .int x1, .int x2, .int x3] [.int s0, .int s1, .ref 8] mem Q := by
  have hS : pm_sig[m_X7_reckonBills]? = some _ := rfl
  have hC : pm_cod[m_X7_reckonBills]? = some _ := rfl
  refine ex_grd (b := pm_inb s1 256) (pc' := 78) (ls' := [.ref 6, .int x1, .int x2, .int x3]) (st' := []) (mem' := pm_up mem 8 s1.toNatClampNeg s0) hS hC rfl k.1 ?_
  replace k := k.2
  refine ex_many (pc' := 27) (ls' := [.ref 6, .int x1, .int x2, .int (x3 + 1)]) (st' := []) (mem' := pm_up mem 8 s1.toNatClampNeg s0) hS hC 2 rfl ?_
  exact k

set_option maxRecDepth 20000 in
theorem bk_X7_sumOf_0 {ro : pm_RO} {Q : Option Value → pm_M → Prop} {mem : pm_M} {a1 : Int32} (k : pm_Ex ro m_X7_reckonBills 0 [.ref 6, .null, .null, .null] [] mem (fun v m => pm_Ex ro m_X7_sumOf 4 [.ref 6, .int a1] (v.toList ++ []) m Q)) : pm_Ex ro m_X7_sumOf 0 [.ref 6, .int a1] [] mem Q := by
  have hS : pm_sig[m_X7_sumOf]? = some _ := rfl
  have hC : pm_cod[m_X7_sumOf]? = some _ := rfl
  refine ex_many (pc' := 1) (ls' := [.ref 6, .int a1]) (st' := [.ref 6]) (mem' := mem) hS hC 1 rfl ?_
  refine ex_call (y' := m_X7_reckonBills) (rest := []) (ent := [.ref 6, .null, .null, .null]) hS hC rfl rfl rfl rfl rfl rfl ?_
  exact k

set_option maxRecDepth 20000 in
theorem bk_X7_sumOf_4 {ro : pm_RO} {Q : Option Value → pm_M → Prop} {mem : pm_M} {x1 : Int32} (k : (pm_inb x1 256 = true) ∧ (Q (some (.int (mem 7 x1.toNatClampNeg))) mem)) : pm_Ex ro m_X7_sumOf 4 [.ref 6, .int x1] [] mem Q := by
  have hS : pm_sig[m_X7_sumOf]? = some _ := rfl
  have hC : pm_cod[m_X7_sumOf]? = some _ := rfl
  refine ex_many (pc' := 9) (ls' := [.ref 6, .int x1]) (st' := [.int x1, .ref 7]) (mem' := mem) hS hC 3 rfl ?_
  refine ex_grd (b := pm_inb x1 256) (pc' := 10) (ls' := [.ref 6, .int x1]) (st' := [.int (mem 7 x1.toNatClampNeg)]) (mem' := mem) hS hC rfl k.1 ?_
  replace k := k.2
  exact ex_ret (v := (some (.int (mem 7 x1.toNatClampNeg)))) hS hC rfl rfl rfl k

set_option maxRecDepth 20000 in
theorem bk_X7_paidOf_0 {ro : pm_RO} {Q : Option Value → pm_M → Prop} {mem : pm_M} {a1 : Int32} (k : pm_Ex ro m_X7_reckonBills 0 [.ref 6, .null, .null, .null] [] mem (fun v m => pm_Ex ro m_X7_paidOf 4 [.ref 6, .int a1] (v.toList ++ []) m Q)) : pm_Ex ro m_X7_paidOf 0 [.ref 6, .int a1] [] mem Q := by
  have hS : pm_sig[m_X7_paidOf]? = some _ := rfl
  have hC : pm_cod[m_X7_paidOf]? = some _ := rfl
  refine ex_many (pc' := 1) (ls' := [.ref 6, .int a1]) (st' := [.ref 6]) (mem' := mem) hS hC 1 rfl ?_
  refine ex_call (y' := m_X7_reckonBills) (rest := []) (ent := [.ref 6, .null, .null, .null]) hS hC rfl rfl rfl rfl rfl rfl ?_
  exact k

set_option maxRecDepth 20000 in
theorem bk_X7_paidOf_4 {ro : pm_RO} {Q : Option Value → pm_M → Prop} {mem : pm_M} {x1 : Int32} (k : (pm_inb x1 256 = true) ∧ (Q (some (.int (mem 8 x1.toNatClampNeg))) mem)) : pm_Ex ro m_X7_paidOf 4 [.ref 6, .int x1] [] mem Q := by
  have hS : pm_sig[m_X7_paidOf]? = some _ := rfl
  have hC : pm_cod[m_X7_paidOf]? = some _ := rfl
  refine ex_many (pc' := 9) (ls' := [.ref 6, .int x1]) (st' := [.int x1, .ref 8]) (mem' := mem) hS hC 3 rfl ?_
  refine ex_grd (b := pm_inb x1 256) (pc' := 10) (ls' := [.ref 6, .int x1]) (st' := [.int (mem 8 x1.toNatClampNeg)]) (mem' := mem) hS hC rfl k.1 ?_
  replace k := k.2
  exact ex_ret (v := (some (.int (mem 8 x1.toNatClampNeg)))) hS hC rfl rfl rfl k

set_option maxRecDepth 20000 in
theorem bk_X7_gainOf_0 {ro : pm_RO} {Q : Option Value → pm_M → Prop} {mem : pm_M} {a1 : Int32} (k : pm_Ex ro m_X7_sumOf 0 [.ref 6, .int a1] [] mem (fun v m => pm_Ex ro m_X7_gainOf 5 [.ref 6, .int a1] (v.toList ++ []) m Q)) : pm_Ex ro m_X7_gainOf 0 [.ref 6, .int a1] [] mem Q := by
  have hS : pm_sig[m_X7_gainOf]? = some _ := rfl
  have hC : pm_cod[m_X7_gainOf]? = some _ := rfl
  refine ex_many (pc' := 2) (ls' := [.ref 6, .int a1]) (st' := [.int a1, .ref 6]) (mem' := mem) hS hC 2 rfl ?_
  refine ex_call (y' := m_X7_sumOf) (rest := []) (ent := [.ref 6, .int a1]) hS hC rfl rfl rfl rfl rfl rfl ?_
  exact k

set_option maxRecDepth 20000 in
theorem bk_X7_gainOf_5 {ro : pm_RO} {Q : Option Value → pm_M → Prop} {mem : pm_M} {x1 s0 : Int32} (k : pm_Ex ro m_X7_paidOf 0 [.ref 6, .int x1] [] mem (fun v m => pm_Ex ro m_X7_gainOf 10 [.ref 6, .int x1] (v.toList ++ [.int s0]) m Q)) : pm_Ex ro m_X7_gainOf 5 [.ref 6, .int x1] [.int s0] mem Q := by
  have hS : pm_sig[m_X7_gainOf]? = some _ := rfl
  have hC : pm_cod[m_X7_gainOf]? = some _ := rfl
  refine ex_many (pc' := 7) (ls' := [.ref 6, .int x1]) (st' := [.int x1, .ref 6, .int s0]) (mem' := mem) hS hC 2 rfl ?_
  refine ex_call (y' := m_X7_paidOf) (rest := [.int s0]) (ent := [.ref 6, .int x1]) hS hC rfl rfl rfl rfl rfl rfl ?_
  exact k

set_option maxRecDepth 20000 in
theorem bk_X7_gainOf_10 {ro : pm_RO} {Q : Option Value → pm_M → Prop} {mem : pm_M} {x1 s0 s1 : Int32} (k : Q (some (.int (s1 - s0))) mem) : pm_Ex ro m_X7_gainOf 10 [.ref 6, .int x1] [.int s0, .int s1] mem Q := by
  have hS : pm_sig[m_X7_gainOf]? = some _ := rfl
  have hC : pm_cod[m_X7_gainOf]? = some _ := rfl
  refine ex_many (pc' := 11) (ls' := [.ref 6, .int x1]) (st' := [.int (s1 - s0)]) (mem' := mem) hS hC 1 rfl ?_
  exact ex_ret (v := (some (.int (s1 - s0)))) hS hC rfl rfl rfl k

set_option maxRecDepth 20000 in
theorem bk_X7_takeBest_0 {ro : pm_RO} {Q : Option Value → pm_M → Prop} {mem : pm_M} {a1 : Int32} (k : pm_Ex ro m_X7_takeBest 10 [.ref 6, .int a1, .int (mem 3 4), .int 1] [] mem Q) : pm_Ex ro m_X7_takeBest 0 [.ref 6, .int a1, .null, .null] [] mem Q := by
  have hS : pm_sig[m_X7_takeBest]? = some _ := rfl
  have hC : pm_cod[m_X7_takeBest]? = some _ := rfl
  refine ex_many (pc' := 4) (ls' := [.ref 6, .int a1, .null, .null]) (st' := [.ref 3]) (mem' := mem) hS hC 2 rfl ?_
  refine ex_call (y' := m_X1_wantedBits) (rest := []) (ent := [.ref 3]) hS hC rfl rfl rfl rfl rfl rfl ?_
  refine bk_X1_wantedBits_0 ?_
  show pm_Ex ro m_X7_takeBest 7 [.ref 6, .int a1, .null, .null] [.int (mem 3 4)] mem Q
  refine ex_many (pc' := 10) (ls' := [.ref 6, .int a1, .int (mem 3 4), .int 1]) (st' := []) (mem' := mem) hS hC 3 rfl ?_
  exact k

set_option maxRecDepth 20000 in
theorem bk_X7_takeBest_10 {ro : pm_RO} {Q : Option Value → pm_M → Prop} {mem : pm_M} {x1 x2 x3 : Int32} (k : ((((1 : Int32) <<< ((mem 3 3) &&& 31)) - 1) < x3 → Q none mem) ∧ (¬ ((((1 : Int32) <<< ((mem 3 3) &&& 31)) - 1) < x3) → (¬ (x3 &&& x2) = x2 → pm_Ex ro m_X7_takeBest 10 [.ref 6, .int x1, .int x2, .int (x3 + 1)] [] mem Q) ∧ (¬ (¬ (x3 &&& x2) = x2) → pm_Ex ro m_J6_bitCount_0f7a4 0 [.int x3] [] mem (fun v m => pm_Ex ro m_X7_takeBest 32 [.ref 6, .int x1, .int x2, .int x3] (v.toList ++ []) m Q)))) : pm_Ex ro m_X7_takeBest 10 [.ref 6, .int x1, .int x2, .int x3] [] mem Q := by
  have hS : pm_sig[m_X7_takeBest]? = some _ := rfl
  have hC : pm_cod[m_X7_takeBest]? = some _ := rfl
  refine ex_many (pc' := 15) (ls' := [.ref 6, .int x1, .int x2, .int x3]) (st' := [.ref 3, .int x3]) (mem' := mem) hS hC 3 rfl ?_
  refine ex_call (y' := m_X1_allBits) (rest := [.int x3]) (ent := [.ref 3]) hS hC rfl rfl rfl rfl rfl rfl ?_
  refine bk_X1_allBits_0 ?_
  show pm_Ex ro m_X7_takeBest 18 [.ref 6, .int x1, .int x2, .int x3] [.int (((1 : Int32) <<< ((mem 3 3) &&& 31)) - 1), .int x3] mem Q
  refine ex_br (P := (((1 : Int32) <<< ((mem 3 3) &&& 31)) - 1) < x3) (a := 92) (b := 21) (ls' := [.ref 6, .int x1, .int x2, .int x3]) (st' := []) (mem' := mem) hS hC rfl (fun h => ?_) (fun h => ?_)
  · replace k := k.1 (h)
    exact ex_ret (v := none) hS hC rfl rfl rfl k
  · replace k := k.2 (h)
    refine ex_many (pc' := 25) (ls' := [.ref 6, .int x1, .int x2, .int x3]) (st' := [.int x2, .int (x3 &&& x2)]) (mem' := mem) hS hC 4 rfl ?_
    refine ex_br (P := ¬ (x3 &&& x2) = x2) (a := 86) (b := 28) (ls' := [.ref 6, .int x1, .int x2, .int x3]) (st' := []) (mem' := mem) hS hC rfl (fun h => ?_) (fun h => ?_)
    · replace k := k.1 (h)
      refine ex_many (pc' := 10) (ls' := [.ref 6, .int x1, .int x2, .int (x3 + 1)]) (st' := []) (mem' := mem) hS hC 2 rfl ?_
      exact k
    · replace k := k.2 (h)
      refine ex_many (pc' := 29) (ls' := [.ref 6, .int x1, .int x2, .int x3]) (st' := [.int x3]) (mem' := mem) hS hC 1 rfl ?_
      refine ex_call (y' := m_J6_bitCount_0f7a4) (rest := []) (ent := [.int x3]) hS hC rfl rfl rfl rfl rfl rfl ?_
      exact k

set_option maxRecDepth 20000 in
theorem bk_X7_takeBest_32 {ro : pm_RO} {Q : Option Value → pm_M → Prop} {mem : pm_M} {x1 x2 x3 s0 : Int32} (k : (s0 < x1 → pm_Ex ro m_X7_takeBest 10 [.ref 6, .int x1, .int x2, .int (x3 + 1)] [] mem Q) ∧ (¬ (s0 < x1) → (pm_inb x3 256 = true) ∧ (((mem 6 8) ≤ (mem 9 x3.toNatClampNeg) → (pm_inb x3 256 = true) ∧ (pm_Ex ro m_X7_takeBest 10 [.ref 6, .int x1, .int x2, .int (x3 + 1)] [] (pm_up mem 6 11 (if (mem 6 11) < (mem 10 x3.toNatClampNeg) then (mem 10 x3.toNatClampNeg) else (mem 6 11))) Q)) ∧ (¬ ((mem 6 8) ≤ (mem 9 x3.toNatClampNeg)) → (pm_inb x3 256 = true) ∧ ((pm_inb x3 256 = true) ∧ (pm_Ex ro m_X7_takeBest 10 [.ref 6, .int x1, .int x2, .int (x3 + 1)] [] (pm_up (pm_up (pm_up (pm_up mem 6 8 (mem 9 x3.toNatClampNeg)) 6 9 x1) 6 10 x3) 6 11 (if ((pm_up (pm_up (pm_up mem 6 8 (mem 9 x3.toNatClampNeg)) 6 9 x1) 6 10 x3) 6 11) < (mem 10 x3.toNatClampNeg) then (mem 10 x3.toNatClampNeg) else ((pm_up (pm_up (pm_up mem 6 8 (mem 9 x3.toNatClampNeg)) 6 9 x1) 6 10 x3) 6 11))) Q)))))) : pm_Ex ro m_X7_takeBest 32 [.ref 6, .int x1, .int x2, .int x3] [.int s0] mem Q := by
  have hS : pm_sig[m_X7_takeBest]? = some _ := rfl
  have hC : pm_cod[m_X7_takeBest]? = some _ := rfl
  refine ex_many (pc' := 33) (ls' := [.ref 6, .int x1, .int x2, .int x3]) (st' := [.int x1, .int s0]) (mem' := mem) hS hC 1 rfl ?_
  refine ex_br (P := s0 < x1) (a := 86) (b := 36) (ls' := [.ref 6, .int x1, .int x2, .int x3]) (st' := []) (mem' := mem) hS hC rfl (fun h => ?_) (fun h => ?_)
  · replace k := k.1 (h)
    refine ex_many (pc' := 10) (ls' := [.ref 6, .int x1, .int x2, .int (x3 + 1)]) (st' := []) (mem' := mem) hS hC 2 rfl ?_
    exact k
  · replace k := k.2 (h)
    refine ex_many (pc' := 41) (ls' := [.ref 6, .int x1, .int x2, .int x3]) (st' := [.int x3, .ref 9]) (mem' := mem) hS hC 3 rfl ?_
    refine ex_grd (b := pm_inb x3 256) (pc' := 42) (ls' := [.ref 6, .int x1, .int x2, .int x3]) (st' := [.int (mem 9 x3.toNatClampNeg)]) (mem' := mem) hS hC rfl k.1 ?_
    replace k := k.2
    refine ex_many (pc' := 46) (ls' := [.ref 6, .int x1, .int x2, .int x3]) (st' := [.int (mem 6 8), .int (mem 9 x3.toNatClampNeg)]) (mem' := mem) hS hC 2 rfl ?_
    refine ex_br (P := (mem 6 8) ≤ (mem 9 x3.toNatClampNeg)) (a := 69) (b := 49) (ls' := [.ref 6, .int x1, .int x2, .int x3]) (st' := []) (mem' := mem) hS hC rfl (fun h => ?_) (fun h => ?_)
    · replace k := k.1 (h)
      refine ex_many (pc' := 79) (ls' := [.ref 6, .int x1, .int x2, .int x3]) (st' := [.int x3, .ref 10, .int (mem 6 11), .ref 6]) (mem' := mem) hS hC 6 rfl ?_
      refine ex_grd (b := pm_inb x3 256) (pc' := 80) (ls' := [.ref 6, .int x1, .int x2, .int x3]) (st' := [.int (mem 10 x3.toNatClampNeg), .int (mem 6 11), .ref 6]) (mem' := mem) hS hC rfl k.1 ?_
      replace k := k.2
      refine ex_spc (pc' := 83) (ls' := [.ref 6, .int x1, .int x2, .int x3]) (st' := [.int (if (mem 6 11) < (mem 10 x3.toNatClampNeg) then (mem 10 x3.toNatClampNeg) else (mem 6 11)), .ref 6]) (mem' := mem) hS hC rfl rfl rfl rfl rfl ?_
      refine ex_many (pc' := 10) (ls' := [.ref 6, .int x1, .int x2, .int (x3 + 1)]) (st' := []) (mem' := pm_up mem 6 11 (if (mem 6 11) < (mem 10 x3.toNatClampNeg) then (mem 10 x3.toNatClampNeg) else (mem 6 11))) hS hC 3 rfl ?_
      exact k
    · replace k := k.2 (h)
      refine ex_many (pc' := 55) (ls' := [.ref 6, .int x1, .int x2, .int x3]) (st' := [.int x3, .ref 9, .ref 6]) (mem' := mem) hS hC 4 rfl ?_
      refine ex_grd (b := pm_inb x3 256) (pc' := 56) (ls' := [.ref 6, .int x1, .int x2, .int x3]) (st' := [.int (mem 9 x3.toNatClampNeg), .ref 6]) (mem' := mem) hS hC rfl k.1 ?_
      replace k := k.2
      refine ex_many (pc' := 79) (ls' := [.ref 6, .int x1, .int x2, .int x3]) (st' := [.int x3, .ref 10, .int ((pm_up (pm_up (pm_up mem 6 8 (mem 9 x3.toNatClampNeg)) 6 9 x1) 6 10 x3) 6 11), .ref 6]) (mem' := pm_up (pm_up (pm_up mem 6 8 (mem 9 x3.toNatClampNeg)) 6 9 x1) 6 10 x3) hS hC 13 rfl ?_
      refine ex_grd (b := pm_inb x3 256) (pc' := 80) (ls' := [.ref 6, .int x1, .int x2, .int x3]) (st' := [.int (mem 10 x3.toNatClampNeg), .int ((pm_up (pm_up (pm_up mem 6 8 (mem 9 x3.toNatClampNeg)) 6 9 x1) 6 10 x3) 6 11), .ref 6]) (mem' := pm_up (pm_up (pm_up mem 6 8 (mem 9 x3.toNatClampNeg)) 6 9 x1) 6 10 x3) hS hC rfl k.1 ?_
      replace k := k.2
      refine ex_spc (pc' := 83) (ls' := [.ref 6, .int x1, .int x2, .int x3]) (st' := [.int (if ((pm_up (pm_up (pm_up mem 6 8 (mem 9 x3.toNatClampNeg)) 6 9 x1) 6 10 x3) 6 11) < (mem 10 x3.toNatClampNeg) then (mem 10 x3.toNatClampNeg) else ((pm_up (pm_up (pm_up mem 6 8 (mem 9 x3.toNatClampNeg)) 6 9 x1) 6 10 x3) 6 11)), .ref 6]) (mem' := pm_up (pm_up (pm_up mem 6 8 (mem 9 x3.toNatClampNeg)) 6 9 x1) 6 10 x3) hS hC rfl rfl rfl rfl rfl ?_
      refine ex_many (pc' := 10) (ls' := [.ref 6, .int x1, .int x2, .int (x3 + 1)]) (st' := []) (mem' := pm_up (pm_up (pm_up (pm_up mem 6 8 (mem 9 x3.toNatClampNeg)) 6 9 x1) 6 10 x3) 6 11 (if ((pm_up (pm_up (pm_up mem 6 8 (mem 9 x3.toNatClampNeg)) 6 9 x1) 6 10 x3) 6 11) < (mem 10 x3.toNatClampNeg) then (mem 10 x3.toNatClampNeg) else ((pm_up (pm_up (pm_up mem 6 8 (mem 9 x3.toNatClampNeg)) 6 9 x1) 6 10 x3) 6 11))) hS hC 3 rfl ?_
      exact k

set_option maxRecDepth 20000 in
theorem bk_X7_partSet_0 {ro : pm_RO} {Q : Option Value → pm_M → Prop} {mem : pm_M} {a1 a2 : Int32} (k : pm_Ex ro m_X7_partSet 16 [.ref 6, .int a1, .int a2, .int (a1 &&& (a1 - 1)), .int 2147483647, .int 0, .int (a1 &&& (a1 - 1)), .null] [] mem Q) : pm_Ex ro m_X7_partSet 0 [.ref 6, .int a1, .int a2, .null, .null, .null, .null, .null] [] mem Q := by
  have hS : pm_sig[m_X7_partSet]? = some _ := rfl
  have hC : pm_cod[m_X7_partSet]? = some _ := rfl
  refine ex_many (pc' := 16) (ls' := [.ref 6, .int a1, .int a2, .int (a1 &&& (a1 - 1)), .int 2147483647, .int 0, .int (a1 &&& (a1 - 1)), .null]) (st' := []) (mem' := mem) hS hC 12 rfl ?_
  exact k

set_option maxRecDepth 20000 in
theorem bk_X7_partSet_16 {ro : pm_RO} {Q : Option Value → pm_M → Prop} {mem : pm_M} {x1 x2 x3 x4 x5 x6 : Int32} {d7 : Value} (k : (x6 ≤ 0 → (pm_inb x1 256 = true) ∧ ((pm_inb x1 256 = true) ∧ (Q none (pm_up (pm_up mem 9 x1.toNatClampNeg x4) 10 x1.toNatClampNeg x5)))) ∧ (¬ (x6 ≤ 0) → pm_Ex ro m_J6_bitCount_0f7a4 0 [.int x6] [] mem (fun v m => pm_Ex ro m_X7_partSet 26 [.ref 6, .int x1, .int x2, .int x3, .int x4, .int x5, .int x6, d7] (v.toList ++ []) m Q))) : pm_Ex ro m_X7_partSet 16 [.ref 6, .int x1, .int x2, .int x3, .int x4, .int x5, .int x6, d7] [] mem Q := by
  have hS : pm_sig[m_X7_partSet]? = some _ := rfl
  have hC : pm_cod[m_X7_partSet]? = some _ := rfl
  refine ex_many (pc' := 18) (ls' := [.ref 6, .int x1, .int x2, .int x3, .int x4, .int x5, .int x6, d7]) (st' := [.int x6]) (mem' := mem) hS hC 1 rfl ?_
  refine ex_br (P := x6 ≤ 0) (a := 97) (b := 21) (ls' := [.ref 6, .int x1, .int x2, .int x3, .int x4, .int x5, .int x6, d7]) (st' := []) (mem' := mem) hS hC rfl (fun h => ?_) (fun h => ?_)
  · replace k := k.1 (h)
    refine ex_many (pc' := 104) (ls' := [.ref 6, .int x1, .int x2, .int x3, .int x4, .int x5, .int x6, d7]) (st' := [.int x4, .int x1, .ref 9]) (mem' := mem) hS hC 4 rfl ?_
    refine ex_grd (b := pm_inb x1 256) (pc' := 105) (ls' := [.ref 6, .int x1, .int x2, .int x3, .int x4, .int x5, .int x6, d7]) (st' := []) (mem' := pm_up mem 9 x1.toNatClampNeg x4) hS hC rfl k.1 ?_
    replace k := k.2
    refine ex_many (pc' := 112) (ls' := [.ref 6, .int x1, .int x2, .int x3, .int x4, .int x5, .int x6, d7]) (st' := [.int x5, .int x1, .ref 10]) (mem' := pm_up mem 9 x1.toNatClampNeg x4) hS hC 4 rfl ?_
    refine ex_grd (b := pm_inb x1 256) (pc' := 113) (ls' := [.ref 6, .int x1, .int x2, .int x3, .int x4, .int x5, .int x6, d7]) (st' := []) (mem' := pm_up (pm_up mem 9 x1.toNatClampNeg x4) 10 x1.toNatClampNeg x5) hS hC rfl k.1 ?_
    replace k := k.2
    exact ex_ret (v := none) hS hC rfl rfl rfl k
  · replace k := k.2 (h)
    refine ex_many (pc' := 23) (ls' := [.ref 6, .int x1, .int x2, .int x3, .int x4, .int x5, .int x6, d7]) (st' := [.int x6]) (mem' := mem) hS hC 1 rfl ?_
    refine ex_call (y' := m_J6_bitCount_0f7a4) (rest := []) (ent := [.int x6]) hS hC rfl rfl rfl rfl rfl rfl ?_
    exact k

set_option maxRecDepth 20000 in
theorem bk_X7_partSet_26 {ro : pm_RO} {Q : Option Value → pm_M → Prop} {mem : pm_M} {x1 x2 x3 x4 x5 x6 s0 : Int32} {d7 : Value} (k : (s0 < (x2 - 1) → pm_Ex ro m_X7_partSet 16 [.ref 6, .int x1, .int x2, .int x3, .int x4, .int x5, .int ((x6 - 1) &&& x3), d7] [] mem Q) ∧ (¬ (s0 < (x2 - 1)) → (pm_inb (x1 ^^^ x6) 256 = true) ∧ ((pm_inb (2 : Int32) 4 = true) ∧ ((pm_inb x6 256 = true) ∧ ((pm_inb x6 256 = true) ∧ (pm_Ex ro m_X7_partSet 16 [.ref 6, .int x1, .int x2, .int x3, .int (if (((mem 8 ((x1 ^^^ x6).toNatClampNeg)) + (mem 2 ((2 : Int32).toNatClampNeg))) + (mem 9 x6.toNatClampNeg)) < x4 then (((mem 8 ((x1 ^^^ x6).toNatClampNeg)) + (mem 2 ((2 : Int32).toNatClampNeg))) + (mem 9 x6.toNatClampNeg)) else x4), .int (if x5 < (((mem 8 ((x1 ^^^ x6).toNatClampNeg)) + (mem 2 ((2 : Int32).toNatClampNeg))) + (mem 10 x6.toNatClampNeg)) then (((mem 8 ((x1 ^^^ x6).toNatClampNeg)) + (mem 2 ((2 : Int32).toNatClampNeg))) + (mem 10 x6.toNatClampNeg)) else x5), .int ((x6 - 1) &&& x3), .int ((mem 8 ((x1 ^^^ x6).toNatClampNeg)) + (mem 2 ((2 : Int32).toNatClampNeg)))] [] mem Q)))))) : pm_Ex ro m_X7_partSet 26 [.ref 6, .int x1, .int x2, .int x3, .int x4, .int x5, .int x6, d7] [.int s0] mem Q := by
  have hS : pm_sig[m_X7_partSet]? = some _ := rfl
  have hC : pm_cod[m_X7_partSet]? = some _ := rfl
  refine ex_many (pc' := 29) (ls' := [.ref 6, .int x1, .int x2, .int x3, .int x4, .int x5, .int x6, d7]) (st' := [.int (x2 - 1), .int s0]) (mem' := mem) hS hC 3 rfl ?_
  refine ex_br (P := s0 < (x2 - 1)) (a := 86) (b := 32) (ls' := [.ref 6, .int x1, .int x2, .int x3, .int x4, .int x5, .int x6, d7]) (st' := []) (mem' := mem) hS hC rfl (fun h => ?_) (fun h => ?_)
  · replace k := k.1 (h)
    refine ex_many (pc' := 16) (ls' := [.ref 6, .int x1, .int x2, .int x3, .int x4, .int x5, .int ((x6 - 1) &&& x3), d7]) (st' := []) (mem' := mem) hS hC 7 rfl ?_
    exact k
  · replace k := k.2 (h)
    refine ex_many (pc' := 40) (ls' := [.ref 6, .int x1, .int x2, .int x3, .int x4, .int x5, .int x6, d7]) (st' := [.int (x1 ^^^ x6), .ref 8]) (mem' := mem) hS hC 5 rfl ?_
    refine ex_grd (b := pm_inb (x1 ^^^ x6) 256) (pc' := 41) (ls' := [.ref 6, .int x1, .int x2, .int x3, .int x4, .int x5, .int x6, d7]) (st' := [.int (mem 8 ((x1 ^^^ x6).toNatClampNeg))]) (mem' := mem) hS hC rfl k.1 ?_
    replace k := k.2
    refine ex_many (pc' := 46) (ls' := [.ref 6, .int x1, .int x2, .int x3, .int x4, .int x5, .int x6, d7]) (st' := [.int 2, .ref 1, .int (mem 8 ((x1 ^^^ x6).toNatClampNeg))]) (mem' := mem) hS hC 3 rfl ?_
    refine ex_call (y' := m_X2_valueOf) (rest := [.int (mem 8 ((x1 ^^^ x6).toNatClampNeg))]) (ent := [.ref 1, .int 2]) hS hC rfl rfl rfl rfl rfl rfl ?_
    refine bk_X2_valueOf_0 ⟨k.1, ?_⟩
    replace k := k.2
    show pm_Ex ro m_X7_partSet 49 [.ref 6, .int x1, .int x2, .int x3, .int x4, .int x5, .int x6, d7] [.int (mem 2 ((2 : Int32).toNatClampNeg)), .int (mem 8 ((x1 ^^^ x6).toNatClampNeg))] mem Q
    refine ex_many (pc' := 62) (ls' := [.ref 6, .int x1, .int x2, .int x3, .int x4, .int x5, .int x6, .int ((mem 8 ((x1 ^^^ x6).toNatClampNeg)) + (mem 2 ((2 : Int32).toNatClampNeg)))]) (st' := [.int x6, .ref 9, .int ((mem 8 ((x1 ^^^ x6).toNatClampNeg)) + (mem 2 ((2 : Int32).toNatClampNeg))), .int x4]) (mem' := mem) hS hC 7 rfl ?_
    refine ex_grd (b := pm_inb x6 256) (pc' := 63) (ls' := [.ref 6, .int x1, .int x2, .int x3, .int x4, .int x5, .int x6, .int ((mem 8 ((x1 ^^^ x6).toNatClampNeg)) + (mem 2 ((2 : Int32).toNatClampNeg)))]) (st' := [.int (mem 9 x6.toNatClampNeg), .int ((mem 8 ((x1 ^^^ x6).toNatClampNeg)) + (mem 2 ((2 : Int32).toNatClampNeg))), .int x4]) (mem' := mem) hS hC rfl k.1 ?_
    replace k := k.2
    refine ex_many (pc' := 64) (ls' := [.ref 6, .int x1, .int x2, .int x3, .int x4, .int x5, .int x6, .int ((mem 8 ((x1 ^^^ x6).toNatClampNeg)) + (mem 2 ((2 : Int32).toNatClampNeg)))]) (st' := [.int (((mem 8 ((x1 ^^^ x6).toNatClampNeg)) + (mem 2 ((2 : Int32).toNatClampNeg))) + (mem 9 x6.toNatClampNeg)), .int x4]) (mem' := mem) hS hC 1 rfl ?_
    refine ex_spc (pc' := 67) (ls' := [.ref 6, .int x1, .int x2, .int x3, .int x4, .int x5, .int x6, .int ((mem 8 ((x1 ^^^ x6).toNatClampNeg)) + (mem 2 ((2 : Int32).toNatClampNeg)))]) (st' := [.int (if (((mem 8 ((x1 ^^^ x6).toNatClampNeg)) + (mem 2 ((2 : Int32).toNatClampNeg))) + (mem 9 x6.toNatClampNeg)) < x4 then (((mem 8 ((x1 ^^^ x6).toNatClampNeg)) + (mem 2 ((2 : Int32).toNatClampNeg))) + (mem 9 x6.toNatClampNeg)) else x4)]) (mem' := mem) hS hC rfl rfl rfl rfl rfl ?_
    refine ex_many (pc' := 79) (ls' := [.ref 6, .int x1, .int x2, .int x3, .int (if (((mem 8 ((x1 ^^^ x6).toNatClampNeg)) + (mem 2 ((2 : Int32).toNatClampNeg))) + (mem 9 x6.toNatClampNeg)) < x4 then (((mem 8 ((x1 ^^^ x6).toNatClampNeg)) + (mem 2 ((2 : Int32).toNatClampNeg))) + (mem 9 x6.toNatClampNeg)) else x4), .int x5, .int x6, .int ((mem 8 ((x1 ^^^ x6).toNatClampNeg)) + (mem 2 ((2 : Int32).toNatClampNeg)))]) (st' := [.int x6, .ref 10, .int ((mem 8 ((x1 ^^^ x6).toNatClampNeg)) + (mem 2 ((2 : Int32).toNatClampNeg))), .int x5]) (mem' := mem) hS hC 6 rfl ?_
    refine ex_grd (b := pm_inb x6 256) (pc' := 80) (ls' := [.ref 6, .int x1, .int x2, .int x3, .int (if (((mem 8 ((x1 ^^^ x6).toNatClampNeg)) + (mem 2 ((2 : Int32).toNatClampNeg))) + (mem 9 x6.toNatClampNeg)) < x4 then (((mem 8 ((x1 ^^^ x6).toNatClampNeg)) + (mem 2 ((2 : Int32).toNatClampNeg))) + (mem 9 x6.toNatClampNeg)) else x4), .int x5, .int x6, .int ((mem 8 ((x1 ^^^ x6).toNatClampNeg)) + (mem 2 ((2 : Int32).toNatClampNeg)))]) (st' := [.int (mem 10 x6.toNatClampNeg), .int ((mem 8 ((x1 ^^^ x6).toNatClampNeg)) + (mem 2 ((2 : Int32).toNatClampNeg))), .int x5]) (mem' := mem) hS hC rfl k.1 ?_
    replace k := k.2
    refine ex_many (pc' := 81) (ls' := [.ref 6, .int x1, .int x2, .int x3, .int (if (((mem 8 ((x1 ^^^ x6).toNatClampNeg)) + (mem 2 ((2 : Int32).toNatClampNeg))) + (mem 9 x6.toNatClampNeg)) < x4 then (((mem 8 ((x1 ^^^ x6).toNatClampNeg)) + (mem 2 ((2 : Int32).toNatClampNeg))) + (mem 9 x6.toNatClampNeg)) else x4), .int x5, .int x6, .int ((mem 8 ((x1 ^^^ x6).toNatClampNeg)) + (mem 2 ((2 : Int32).toNatClampNeg)))]) (st' := [.int (((mem 8 ((x1 ^^^ x6).toNatClampNeg)) + (mem 2 ((2 : Int32).toNatClampNeg))) + (mem 10 x6.toNatClampNeg)), .int x5]) (mem' := mem) hS hC 1 rfl ?_
    refine ex_spc (pc' := 84) (ls' := [.ref 6, .int x1, .int x2, .int x3, .int (if (((mem 8 ((x1 ^^^ x6).toNatClampNeg)) + (mem 2 ((2 : Int32).toNatClampNeg))) + (mem 9 x6.toNatClampNeg)) < x4 then (((mem 8 ((x1 ^^^ x6).toNatClampNeg)) + (mem 2 ((2 : Int32).toNatClampNeg))) + (mem 9 x6.toNatClampNeg)) else x4), .int x5, .int x6, .int ((mem 8 ((x1 ^^^ x6).toNatClampNeg)) + (mem 2 ((2 : Int32).toNatClampNeg)))]) (st' := [.int (if x5 < (((mem 8 ((x1 ^^^ x6).toNatClampNeg)) + (mem 2 ((2 : Int32).toNatClampNeg))) + (mem 10 x6.toNatClampNeg)) then (((mem 8 ((x1 ^^^ x6).toNatClampNeg)) + (mem 2 ((2 : Int32).toNatClampNeg))) + (mem 10 x6.toNatClampNeg)) else x5)]) (mem' := mem) hS hC rfl rfl rfl rfl rfl ?_
    refine ex_many (pc' := 16) (ls' := [.ref 6, .int x1, .int x2, .int x3, .int (if (((mem 8 ((x1 ^^^ x6).toNatClampNeg)) + (mem 2 ((2 : Int32).toNatClampNeg))) + (mem 9 x6.toNatClampNeg)) < x4 then (((mem 8 ((x1 ^^^ x6).toNatClampNeg)) + (mem 2 ((2 : Int32).toNatClampNeg))) + (mem 9 x6.toNatClampNeg)) else x4), .int (if x5 < (((mem 8 ((x1 ^^^ x6).toNatClampNeg)) + (mem 2 ((2 : Int32).toNatClampNeg))) + (mem 10 x6.toNatClampNeg)) then (((mem 8 ((x1 ^^^ x6).toNatClampNeg)) + (mem 2 ((2 : Int32).toNatClampNeg))) + (mem 10 x6.toNatClampNeg)) else x5), .int ((x6 - 1) &&& x3), .int ((mem 8 ((x1 ^^^ x6).toNatClampNeg)) + (mem 2 ((2 : Int32).toNatClampNeg)))]) (st' := []) (mem' := mem) hS hC 8 rfl ?_
    exact k

set_option maxRecDepth 20000 in
theorem bk_X7_partOnceMore_0 {ro : pm_RO} {Q : Option Value → pm_M → Prop} {mem : pm_M} {a1 : Int32} (k : pm_Ex ro m_X7_partOnceMore 8 [.ref 6, .int a1, .int (((1 : Int32) <<< ((mem 3 3) &&& 31)) - 1)] [] mem Q) : pm_Ex ro m_X7_partOnceMore 0 [.ref 6, .int a1, .null] [] mem Q := by
  have hS : pm_sig[m_X7_partOnceMore]? = some _ := rfl
  have hC : pm_cod[m_X7_partOnceMore]? = some _ := rfl
  refine ex_many (pc' := 4) (ls' := [.ref 6, .int a1, .null]) (st' := [.ref 3]) (mem' := mem) hS hC 2 rfl ?_
  refine ex_call (y' := m_X1_allBits) (rest := []) (ent := [.ref 3]) hS hC rfl rfl rfl rfl rfl rfl ?_
  refine bk_X1_allBits_0 ?_
  show pm_Ex ro m_X7_partOnceMore 7 [.ref 6, .int a1, .null] [.int (((1 : Int32) <<< ((mem 3 3) &&& 31)) - 1)] mem Q
  refine ex_many (pc' := 8) (ls' := [.ref 6, .int a1, .int (((1 : Int32) <<< ((mem 3 3) &&& 31)) - 1)]) (st' := []) (mem' := mem) hS hC 1 rfl ?_
  exact k

set_option maxRecDepth 20000 in
theorem bk_X7_partOnceMore_8 {ro : pm_RO} {Q : Option Value → pm_M → Prop} {mem : pm_M} {x1 x2 : Int32} (k : (x2 ≤ 0 → Q none mem) ∧ (¬ (x2 ≤ 0) → pm_Ex ro m_J6_bitCount_0f7a4 0 [.int x2] [] mem (fun v m => pm_Ex ro m_X7_partOnceMore 16 [.ref 6, .int x1, .int x2] (v.toList ++ []) m Q))) : pm_Ex ro m_X7_partOnceMore 8 [.ref 6, .int x1, .int x2] [] mem Q := by
  have hS : pm_sig[m_X7_partOnceMore]? = some _ := rfl
  have hC : pm_cod[m_X7_partOnceMore]? = some _ := rfl
  refine ex_many (pc' := 9) (ls' := [.ref 6, .int x1, .int x2]) (st' := [.int x2]) (mem' := mem) hS hC 1 rfl ?_
  refine ex_br (P := x2 ≤ 0) (a := 32) (b := 12) (ls' := [.ref 6, .int x1, .int x2]) (st' := []) (mem' := mem) hS hC rfl (fun h => ?_) (fun h => ?_)
  · replace k := k.1 (h)
    exact ex_ret (v := none) hS hC rfl rfl rfl k
  · replace k := k.2 (h)
    refine ex_many (pc' := 13) (ls' := [.ref 6, .int x1, .int x2]) (st' := [.int x2]) (mem' := mem) hS hC 1 rfl ?_
    refine ex_call (y' := m_J6_bitCount_0f7a4) (rest := []) (ent := [.int x2]) hS hC rfl rfl rfl rfl rfl rfl ?_
    exact k

set_option maxRecDepth 20000 in
theorem bk_X7_partOnceMore_16 {ro : pm_RO} {Q : Option Value → pm_M → Prop} {mem : pm_M} {x1 x2 s0 : Int32} (k : (s0 < x1 → pm_Ex ro m_X7_partOnceMore 8 [.ref 6, .int x1, .int (x2 + (-1))] [] mem Q) ∧ (¬ (s0 < x1) → pm_Ex ro m_X7_partSet 0 [.ref 6, .int x2, .int x1, .null, .null, .null, .null, .null] [] mem (fun v m => pm_Ex ro m_X7_partOnceMore 26 [.ref 6, .int x1, .int x2] (v.toList ++ []) m Q))) : pm_Ex ro m_X7_partOnceMore 16 [.ref 6, .int x1, .int x2] [.int s0] mem Q := by
  have hS : pm_sig[m_X7_partOnceMore]? = some _ := rfl
  have hC : pm_cod[m_X7_partOnceMore]? = some _ := rfl
  refine ex_many (pc' := 17) (ls' := [.ref 6, .int x1, .int x2]) (st' := [.int x1, .int s0]) (mem' := mem) hS hC 1 rfl ?_
  refine ex_br (P := s0 < x1) (a := 26) (b := 20) (ls' := [.ref 6, .int x1, .int x2]) (st' := []) (mem' := mem) hS hC rfl (fun h => ?_) (fun h => ?_)
  · replace k := k.1 (h)
    refine ex_many (pc' := 8) (ls' := [.ref 6, .int x1, .int (x2 + (-1))]) (st' := []) (mem' := mem) hS hC 2 rfl ?_
    exact k
  · replace k := k.2 (h)
    refine ex_many (pc' := 23) (ls' := [.ref 6, .int x1, .int x2]) (st' := [.int x1, .int x2, .ref 6]) (mem' := mem) hS hC 3 rfl ?_
    refine ex_call (y' := m_X7_partSet) (rest := []) (ent := [.ref 6, .int x2, .int x1, .null, .null, .null, .null, .null]) hS hC rfl rfl rfl rfl rfl rfl ?_
    exact k

set_option maxRecDepth 20000 in
theorem bk_X7_partOnceMore_26 {ro : pm_RO} {Q : Option Value → pm_M → Prop} {mem : pm_M} {x1 x2 : Int32} (k : pm_Ex ro m_X7_partOnceMore 8 [.ref 6, .int x1, .int (x2 + (-1))] [] mem Q) : pm_Ex ro m_X7_partOnceMore 26 [.ref 6, .int x1, .int x2] [] mem Q := by
  have hS : pm_sig[m_X7_partOnceMore]? = some _ := rfl
  have hC : pm_cod[m_X7_partOnceMore]? = some _ := rfl
  refine ex_many (pc' := 8) (ls' := [.ref 6, .int x1, .int (x2 + (-1))]) (st' := []) (mem' := mem) hS hC 2 rfl ?_
  exact k

set_option maxRecDepth 20000 in
theorem bk_X7_reckonBought_0 {ro : pm_RO} {Q : Option Value → pm_M → Prop} {mem : pm_M} (k : ((mem 6 7) = 0 → pm_Ex ro m_X7_reckonBills 0 [.ref 6, .null, .null, .null] [] mem (fun v m => pm_Ex ro m_X7_reckonBought 12 [.ref 6, .null] (v.toList ++ []) m Q)) ∧ (¬ ((mem 6 7) = 0) → Q none mem)) : pm_Ex ro m_X7_reckonBought 0 [.ref 6, .null] [] mem Q := by
  have hS : pm_sig[m_X7_reckonBought]? = some _ := rfl
  have hC : pm_cod[m_X7_reckonBought]? = some _ := rfl
  refine ex_many (pc' := 4) (ls' := [.ref 6, .null]) (st' := [.int (mem 6 7)]) (mem' := mem) hS hC 2 rfl ?_
  refine ex_br (P := (mem 6 7) = 0) (a := 8) (b := 7) (ls' := [.ref 6, .null]) (st' := []) (mem' := mem) hS hC rfl (fun h => ?_) (fun h => ?_)
  · replace k := k.1 (h)
    refine ex_many (pc' := 9) (ls' := [.ref 6, .null]) (st' := [.ref 6]) (mem' := mem) hS hC 1 rfl ?_
    refine ex_call (y' := m_X7_reckonBills) (rest := []) (ent := [.ref 6, .null, .null, .null]) hS hC rfl rfl rfl rfl rfl rfl ?_
    exact k
  · replace k := k.2 (h)
    exact ex_ret (v := none) hS hC rfl rfl rfl k

set_option maxRecDepth 20000 in
theorem bk_X7_reckonBought_49 {ro : pm_RO} {Q : Option Value → pm_M → Prop} {mem : pm_M} {x1 : Int32} (k : ((((1 : Int32) <<< ((mem 3 3) &&& 31)) - 1) < x1 → pm_Ex ro m_X7_takeBest 0 [.ref 6, .int 1, .null, .null] [] mem (fun v m => pm_Ex ro m_X7_reckonBought 104 [.ref 6, .int x1] (v.toList ++ []) m Q)) ∧ (¬ ((((1 : Int32) <<< ((mem 3 3) &&& 31)) - 1) < x1) → (pm_inb x1 256 = true) ∧ ((pm_inb (2 : Int32) 4 = true) ∧ ((pm_inb x1 256 = true) ∧ ((pm_inb x1 256 = true) ∧ ((pm_inb x1 256 = true) ∧ (pm_Ex ro m_X7_reckonBought 49 [.ref 6, .int (x1 + 1)] [] (pm_up (pm_up mem 9 x1.toNatClampNeg ((mem 8 x1.toNatClampNeg) + (mem 2 ((2 : Int32).toNatClampNeg)))) 10 x1.toNatClampNeg ((pm_up mem 9 x1.toNatClampNeg ((mem 8 x1.toNatClampNeg) + (mem 2 ((2 : Int32).toNatClampNeg)))) 9 x1.toNatClampNeg)) Q))))))) : pm_Ex ro m_X7_reckonBought 49 [.ref 6, .int x1] [] mem Q := by
  have hS : pm_sig[m_X7_reckonBought]? = some _ := rfl
  have hC : pm_cod[m_X7_reckonBought]? = some _ := rfl
  refine ex_many (pc' := 54) (ls' := [.ref 6, .int x1]) (st' := [.ref 3, .int x1]) (mem' := mem) hS hC 3 rfl ?_
  refine ex_call (y' := m_X1_allBits) (rest := [.int x1]) (ent := [.ref 3]) hS hC rfl rfl rfl rfl rfl rfl ?_
  refine bk_X1_allBits_0 ?_
  show pm_Ex ro m_X7_reckonBought 57 [.ref 6, .int x1] [.int (((1 : Int32) <<< ((mem 3 3) &&& 31)) - 1), .int x1] mem Q
  refine ex_br (P := (((1 : Int32) <<< ((mem 3 3) &&& 31)) - 1) < x1) (a := 99) (b := 60) (ls' := [.ref 6, .int x1]) (st' := []) (mem' := mem) hS hC rfl (fun h => ?_) (fun h => ?_)
  · replace k := k.1 (h)
    refine ex_many (pc' := 101) (ls' := [.ref 6, .int x1]) (st' := [.int 1, .ref 6]) (mem' := mem) hS hC 2 rfl ?_
    refine ex_call (y' := m_X7_takeBest) (rest := []) (ent := [.ref 6, .int 1, .null, .null]) hS hC rfl rfl rfl rfl rfl rfl ?_
    exact k
  · replace k := k.2 (h)
    refine ex_many (pc' := 70) (ls' := [.ref 6, .int x1]) (st' := [.int x1, .ref 8, .int x1, .ref 9]) (mem' := mem) hS hC 6 rfl ?_
    refine ex_grd (b := pm_inb x1 256) (pc' := 71) (ls' := [.ref 6, .int x1]) (st' := [.int (mem 8 x1.toNatClampNeg), .int x1, .ref 9]) (mem' := mem) hS hC rfl k.1 ?_
    replace k := k.2
    refine ex_many (pc' := 76) (ls' := [.ref 6, .int x1]) (st' := [.int 2, .ref 1, .int (mem 8 x1.toNatClampNeg), .int x1, .ref 9]) (mem' := mem) hS hC 3 rfl ?_
    refine ex_call (y' := m_X2_valueOf) (rest := [.int (mem 8 x1.toNatClampNeg), .int x1, .ref 9]) (ent := [.ref 1, .int 2]) hS hC rfl rfl rfl rfl rfl rfl ?_
    refine bk_X2_valueOf_0 ⟨k.1, ?_⟩
    replace k := k.2
    show pm_Ex ro m_X7_reckonBought 79 [.ref 6, .int x1] [.int (mem 2 ((2 : Int32).toNatClampNeg)), .int (mem 8 x1.toNatClampNeg), .int x1, .ref 9] mem Q
    refine ex_many (pc' := 80) (ls' := [.ref 6, .int x1]) (st' := [.int ((mem 8 x1.toNatClampNeg) + (mem 2 ((2 : Int32).toNatClampNeg))), .int x1, .ref 9]) (mem' := mem) hS hC 1 rfl ?_
    refine ex_grd (b := pm_inb x1 256) (pc' := 81) (ls' := [.ref 6, .int x1]) (st' := []) (mem' := pm_up mem 9 x1.toNatClampNeg ((mem 8 x1.toNatClampNeg) + (mem 2 ((2 : Int32).toNatClampNeg)))) hS hC rfl k.1 ?_
    replace k := k.2
    refine ex_many (pc' := 91) (ls' := [.ref 6, .int x1]) (st' := [.int x1, .ref 9, .int x1, .ref 10]) (mem' := pm_up mem 9 x1.toNatClampNeg ((mem 8 x1.toNatClampNeg) + (mem 2 ((2 : Int32).toNatClampNeg)))) hS hC 6 rfl ?_
    refine ex_grd (b := pm_inb x1 256) (pc' := 92) (ls' := [.ref 6, .int x1]) (st' := [.int ((pm_up mem 9 x1.toNatClampNeg ((mem 8 x1.toNatClampNeg) + (mem 2 ((2 : Int32).toNatClampNeg)))) 9 x1.toNatClampNeg), .int x1, .ref 10]) (mem' := pm_up mem 9 x1.toNatClampNeg ((mem 8 x1.toNatClampNeg) + (mem 2 ((2 : Int32).toNatClampNeg)))) hS hC rfl k.1 ?_
    replace k := k.2
    refine ex_grd (b := pm_inb x1 256) (pc' := 93) (ls' := [.ref 6, .int x1]) (st' := []) (mem' := pm_up (pm_up mem 9 x1.toNatClampNeg ((mem 8 x1.toNatClampNeg) + (mem 2 ((2 : Int32).toNatClampNeg)))) 10 x1.toNatClampNeg ((pm_up mem 9 x1.toNatClampNeg ((mem 8 x1.toNatClampNeg) + (mem 2 ((2 : Int32).toNatClampNeg)))) 9 x1.toNatClampNeg)) hS hC rfl k.1 ?_
    replace k := k.2
    refine ex_many (pc' := 49) (ls' := [.ref 6, .int (x1 + 1)]) (st' := []) (mem' := pm_up (pm_up mem 9 x1.toNatClampNeg ((mem 8 x1.toNatClampNeg) + (mem 2 ((2 : Int32).toNatClampNeg)))) 10 x1.toNatClampNeg ((pm_up mem 9 x1.toNatClampNeg ((mem 8 x1.toNatClampNeg) + (mem 2 ((2 : Int32).toNatClampNeg)))) 9 x1.toNatClampNeg)) hS hC 2 rfl ?_
    exact k

set_option maxRecDepth 20000 in
theorem bk_X7_reckonBought_106 {ro : pm_RO} {Q : Option Value → pm_M → Prop} {mem : pm_M} {x1 : Int32} (k : (pm_inb (3 : Int32) 4 = true) ∧ (((mem 2 ((3 : Int32).toNatClampNeg)) < x1 → Q none (pm_up mem 6 7 1)) ∧ (¬ ((mem 2 ((3 : Int32).toNatClampNeg)) < x1) → pm_Ex ro m_X7_partOnceMore 0 [.ref 6, .int x1, .null] [] mem (fun v m => pm_Ex ro m_X7_reckonBought 123 [.ref 6, .int x1] (v.toList ++ []) m Q)))) : pm_Ex ro m_X7_reckonBought 106 [.ref 6, .int x1] [] mem Q := by
  have hS : pm_sig[m_X7_reckonBought]? = some _ := rfl
  have hC : pm_cod[m_X7_reckonBought]? = some _ := rfl
  refine ex_many (pc' := 112) (ls' := [.ref 6, .int x1]) (st' := [.int 3, .ref 1, .int x1]) (mem' := mem) hS hC 4 rfl ?_
  refine ex_call (y' := m_X2_valueOf) (rest := [.int x1]) (ent := [.ref 1, .int 3]) hS hC rfl rfl rfl rfl rfl rfl ?_
  refine bk_X2_valueOf_0 ⟨k.1, ?_⟩
  replace k := k.2
  show pm_Ex ro m_X7_reckonBought 115 [.ref 6, .int x1] [.int (mem 2 ((3 : Int32).toNatClampNeg)), .int x1] mem Q
  refine ex_br (P := (mem 2 ((3 : Int32).toNatClampNeg)) < x1) (a := 134) (b := 118) (ls' := [.ref 6, .int x1]) (st' := []) (mem' := mem) hS hC rfl (fun h => ?_) (fun h => ?_)
  · replace k := k.1 (h)
    refine ex_many (pc' := 139) (ls' := [.ref 6, .int x1]) (st' := []) (mem' := pm_up mem 6 7 1) hS hC 3 rfl ?_
    exact ex_ret (v := none) hS hC rfl rfl rfl k
  · replace k := k.2 (h)
    refine ex_many (pc' := 120) (ls' := [.ref 6, .int x1]) (st' := [.int x1, .ref 6]) (mem' := mem) hS hC 2 rfl ?_
    refine ex_call (y' := m_X7_partOnceMore) (rest := []) (ent := [.ref 6, .int x1, .null]) hS hC rfl rfl rfl rfl rfl rfl ?_
    exact k

set_option maxRecDepth 20000 in
theorem bk_X7_reckonBought_12 {ro : pm_RO} {Q : Option Value → pm_M → Prop} {mem : pm_M} (k : pm_Ex ro m_X7_reckonBought 49 [.ref 6, .int 1] [] (pm_up (pm_up (pm_up (pm_up mem 6 8 (if ¬ (mem 3 4) = 0 then 2147483647 else 0 : Int32)) 6 9 0) 6 10 0) 6 11 0) Q) : pm_Ex ro m_X7_reckonBought 12 [.ref 6, .null] [] mem Q := by
  have hS : pm_sig[m_X7_reckonBought]? = some _ := rfl
  have hC : pm_cod[m_X7_reckonBought]? = some _ := rfl
  refine ex_many (pc' := 17) (ls' := [.ref 6, .null]) (st' := [.ref 3, .ref 6]) (mem' := mem) hS hC 3 rfl ?_
  refine ex_call (y' := m_X1_wantedBits) (rest := [.ref 6]) (ent := [.ref 3]) hS hC rfl rfl rfl rfl rfl rfl ?_
  refine bk_X1_wantedBits_0 ?_
  show pm_Ex ro m_X7_reckonBought 20 [.ref 6, .null] [.int (mem 3 4), .ref 6] mem Q
  have kp10 : pm_Ex ro m_X7_reckonBought 29 [.ref 6, .null] [.int (if ¬ (mem 3 4) = 0 then 2147483647 else 0 : Int32), .ref 6] mem Q := by
    refine ex_many (pc' := 49) (ls' := [.ref 6, .int 1]) (st' := []) (mem' := pm_up (pm_up (pm_up (pm_up mem 6 8 (if ¬ (mem 3 4) = 0 then 2147483647 else 0 : Int32)) 6 9 0) 6 10 0) 6 11 0) hS hC 12 rfl ?_
    exact k
  refine ex_br (P := ¬ (mem 3 4) = 0) (a := 27) (b := 23) (ls' := [.ref 6, .null]) (st' := [.ref 6]) (mem' := mem) hS hC rfl (fun h => ?_) (fun h => ?_)
  · have kp10a : pm_Ex ro m_X7_reckonBought 29 [.ref 6, .null] [.int 2147483647, .ref 6] mem Q := pm_phi1 (f := fun z0 => pm_Ex ro m_X7_reckonBought 29 [.ref 6, .null] [.int z0, .ref 6] mem Q) (if_pos (h)) kp10
    refine ex_many (pc' := 29) (ls' := [.ref 6, .null]) (st' := [.int 2147483647, .ref 6]) (mem' := mem) hS hC 1 rfl ?_
    exact kp10a
  · have kp10b : pm_Ex ro m_X7_reckonBought 29 [.ref 6, .null] [.int 0, .ref 6] mem Q := pm_phi1 (f := fun z0 => pm_Ex ro m_X7_reckonBought 29 [.ref 6, .null] [.int z0, .ref 6] mem Q) (if_neg (h)) kp10
    refine ex_many (pc' := 29) (ls' := [.ref 6, .null]) (st' := [.int 0, .ref 6]) (mem' := mem) hS hC 2 rfl ?_
    exact kp10b

set_option maxRecDepth 20000 in
theorem bk_X7_reckonBought_104 {ro : pm_RO} {Q : Option Value → pm_M → Prop} {mem : pm_M} {x1 : Int32} (k : pm_Ex ro m_X7_reckonBought 106 [.ref 6, .int 2] [] mem Q) : pm_Ex ro m_X7_reckonBought 104 [.ref 6, .int x1] [] mem Q := by
  have hS : pm_sig[m_X7_reckonBought]? = some _ := rfl
  have hC : pm_cod[m_X7_reckonBought]? = some _ := rfl
  refine ex_many (pc' := 106) (ls' := [.ref 6, .int 2]) (st' := []) (mem' := mem) hS hC 2 rfl ?_
  exact k

set_option maxRecDepth 20000 in
theorem bk_X7_reckonBought_123 {ro : pm_RO} {Q : Option Value → pm_M → Prop} {mem : pm_M} {x1 : Int32} (k : pm_Ex ro m_X7_takeBest 0 [.ref 6, .int x1, .null, .null] [] mem (fun v m => pm_Ex ro m_X7_reckonBought 128 [.ref 6, .int x1] (v.toList ++ []) m Q)) : pm_Ex ro m_X7_reckonBought 123 [.ref 6, .int x1] [] mem Q := by
  have hS : pm_sig[m_X7_reckonBought]? = some _ := rfl
  have hC : pm_cod[m_X7_reckonBought]? = some _ := rfl
  refine ex_many (pc' := 125) (ls' := [.ref 6, .int x1]) (st' := [.int x1, .ref 6]) (mem' := mem) hS hC 2 rfl ?_
  refine ex_call (y' := m_X7_takeBest) (rest := []) (ent := [.ref 6, .int x1, .null, .null]) hS hC rfl rfl rfl rfl rfl rfl ?_
  exact k

set_option maxRecDepth 20000 in
theorem bk_X7_reckonBought_128 {ro : pm_RO} {Q : Option Value → pm_M → Prop} {mem : pm_M} {x1 : Int32} (k : pm_Ex ro m_X7_reckonBought 106 [.ref 6, .int (x1 + 1)] [] mem Q) : pm_Ex ro m_X7_reckonBought 128 [.ref 6, .int x1] [] mem Q := by
  have hS : pm_sig[m_X7_reckonBought]? = some _ := rfl
  have hC : pm_cod[m_X7_reckonBought]? = some _ := rfl
  refine ex_many (pc' := 106) (ls' := [.ref 6, .int (x1 + 1)]) (st' := []) (mem' := mem) hS hC 2 rfl ?_
  exact k

set_option maxRecDepth 20000 in
theorem bk_X7_leastPaid_0 {ro : pm_RO} {Q : Option Value → pm_M → Prop} {mem : pm_M} (k : pm_Ex ro m_X7_reckonBought 0 [.ref 6, .null] [] mem (fun v m => pm_Ex ro m_X7_leastPaid 4 [.ref 6] (v.toList ++ []) m Q)) : pm_Ex ro m_X7_leastPaid 0 [.ref 6] [] mem Q := by
  have hS : pm_sig[m_X7_leastPaid]? = some _ := rfl
  have hC : pm_cod[m_X7_leastPaid]? = some _ := rfl
  refine ex_many (pc' := 1) (ls' := [.ref 6]) (st' := [.ref 6]) (mem' := mem) hS hC 1 rfl ?_
  refine ex_call (y' := m_X7_reckonBought) (rest := []) (ent := [.ref 6, .null]) hS hC rfl rfl rfl rfl rfl rfl ?_
  exact k

set_option maxRecDepth 20000 in
theorem bk_X7_leastPaid_4 {ro : pm_RO} {Q : Option Value → pm_M → Prop} {mem : pm_M} (k : Q (some (.int (mem 6 8))) mem) : pm_Ex ro m_X7_leastPaid 4 [.ref 6] [] mem Q := by
  have hS : pm_sig[m_X7_leastPaid]? = some _ := rfl
  have hC : pm_cod[m_X7_leastPaid]? = some _ := rfl
  refine ex_many (pc' := 8) (ls' := [.ref 6]) (st' := [.int (mem 6 8)]) (mem' := mem) hS hC 2 rfl ?_
  exact ex_ret (v := (some (.int (mem 6 8)))) hS hC rfl rfl rfl k

set_option maxRecDepth 20000 in
theorem bk_X7_leastBills_0 {ro : pm_RO} {Q : Option Value → pm_M → Prop} {mem : pm_M} (k : pm_Ex ro m_X7_reckonBought 0 [.ref 6, .null] [] mem (fun v m => pm_Ex ro m_X7_leastBills 4 [.ref 6] (v.toList ++ []) m Q)) : pm_Ex ro m_X7_leastBills 0 [.ref 6] [] mem Q := by
  have hS : pm_sig[m_X7_leastBills]? = some _ := rfl
  have hC : pm_cod[m_X7_leastBills]? = some _ := rfl
  refine ex_many (pc' := 1) (ls' := [.ref 6]) (st' := [.ref 6]) (mem' := mem) hS hC 1 rfl ?_
  refine ex_call (y' := m_X7_reckonBought) (rest := []) (ent := [.ref 6, .null]) hS hC rfl rfl rfl rfl rfl rfl ?_
  exact k

set_option maxRecDepth 20000 in
theorem bk_X7_leastBills_4 {ro : pm_RO} {Q : Option Value → pm_M → Prop} {mem : pm_M} (k : Q (some (.int (mem 6 9))) mem) : pm_Ex ro m_X7_leastBills 4 [.ref 6] [] mem Q := by
  have hS : pm_sig[m_X7_leastBills]? = some _ := rfl
  have hC : pm_cod[m_X7_leastBills]? = some _ := rfl
  refine ex_many (pc' := 8) (ls' := [.ref 6]) (st' := [.int (mem 6 9)]) (mem' := mem) hS hC 2 rfl ?_
  exact ex_ret (v := (some (.int (mem 6 9)))) hS hC rfl rfl rfl k

set_option maxRecDepth 20000 in
theorem bk_X7_leastBits_0 {ro : pm_RO} {Q : Option Value → pm_M → Prop} {mem : pm_M} (k : pm_Ex ro m_X7_reckonBought 0 [.ref 6, .null] [] mem (fun v m => pm_Ex ro m_X7_leastBits 4 [.ref 6] (v.toList ++ []) m Q)) : pm_Ex ro m_X7_leastBits 0 [.ref 6] [] mem Q := by
  have hS : pm_sig[m_X7_leastBits]? = some _ := rfl
  have hC : pm_cod[m_X7_leastBits]? = some _ := rfl
  refine ex_many (pc' := 1) (ls' := [.ref 6]) (st' := [.ref 6]) (mem' := mem) hS hC 1 rfl ?_
  refine ex_call (y' := m_X7_reckonBought) (rest := []) (ent := [.ref 6, .null]) hS hC rfl rfl rfl rfl rfl rfl ?_
  exact k

set_option maxRecDepth 20000 in
theorem bk_X7_leastBits_4 {ro : pm_RO} {Q : Option Value → pm_M → Prop} {mem : pm_M} (k : Q (some (.int (mem 6 10))) mem) : pm_Ex ro m_X7_leastBits 4 [.ref 6] [] mem Q := by
  have hS : pm_sig[m_X7_leastBits]? = some _ := rfl
  have hC : pm_cod[m_X7_leastBits]? = some _ := rfl
  refine ex_many (pc' := 8) (ls' := [.ref 6]) (st' := [.int (mem 6 10)]) (mem' := mem) hS hC 2 rfl ?_
  exact ex_ret (v := (some (.int (mem 6 10)))) hS hC rfl rfl rfl k

set_option maxRecDepth 20000 in
theorem bk_X7_mostPaid_0 {ro : pm_RO} {Q : Option Value → pm_M → Prop} {mem : pm_M} (k : pm_Ex ro m_X7_reckonBought 0 [.ref 6, .null] [] mem (fun v m => pm_Ex ro m_X7_mostPaid 4 [.ref 6] (v.toList ++ []) m Q)) : pm_Ex ro m_X7_mostPaid 0 [.ref 6] [] mem Q := by
  have hS : pm_sig[m_X7_mostPaid]? = some _ := rfl
  have hC : pm_cod[m_X7_mostPaid]? = some _ := rfl
  refine ex_many (pc' := 1) (ls' := [.ref 6]) (st' := [.ref 6]) (mem' := mem) hS hC 1 rfl ?_
  refine ex_call (y' := m_X7_reckonBought) (rest := []) (ent := [.ref 6, .null]) hS hC rfl rfl rfl rfl rfl rfl ?_
  exact k

set_option maxRecDepth 20000 in
theorem bk_X7_mostPaid_4 {ro : pm_RO} {Q : Option Value → pm_M → Prop} {mem : pm_M} (k : Q (some (.int (mem 6 11))) mem) : pm_Ex ro m_X7_mostPaid 4 [.ref 6] [] mem Q := by
  have hS : pm_sig[m_X7_mostPaid]? = some _ := rfl
  have hC : pm_cod[m_X7_mostPaid]? = some _ := rfl
  refine ex_many (pc' := 8) (ls' := [.ref 6]) (st' := [.int (mem 6 11)]) (mem' := mem) hS hC 2 rfl ?_
  exact ex_ret (v := (some (.int (mem 6 11)))) hS hC rfl rfl rfl k

set_option maxRecDepth 20000 in
theorem bk_X7_greatestGain_0 {ro : pm_RO} {Q : Option Value → pm_M → Prop} {mem : pm_M} {a1 : Int32} (k : pm_Ex ro m_X7_reckonBills 0 [.ref 6, .null, .null, .null] [] mem (fun v m => pm_Ex ro m_X7_greatestGain 4 [.ref 6, .int a1, .null, .null] (v.toList ++ []) m Q)) : pm_Ex ro m_X7_greatestGain 0 [.ref 6, .int a1, .null, .null] [] mem Q := by
  have hS : pm_sig[m_X7_greatestGain]? = some _ := rfl
  have hC : pm_cod[m_X7_greatestGain]? = some _ := rfl
  refine ex_many (pc' := 1) (ls' := [.ref 6, .int a1, .null, .null]) (st' := [.ref 6]) (mem' := mem) hS hC 1 rfl ?_
  refine ex_call (y' := m_X7_reckonBills) (rest := []) (ent := [.ref 6, .null, .null, .null]) hS hC rfl rfl rfl rfl rfl rfl ?_
  exact k

set_option maxRecDepth 20000 in
theorem bk_X7_greatestGain_8 {ro : pm_RO} {Q : Option Value → pm_M → Prop} {mem : pm_M} {x1 x2 x3 : Int32} (k : ((((1 : Int32) <<< ((mem 3 3) &&& 31)) - 1) < x3 → Q (some (.int x2)) mem) ∧ (¬ ((((1 : Int32) <<< ((mem 3 3) &&& 31)) - 1) < x3) → pm_Ex ro m_J6_bitCount_0f7a4 0 [.int x3] [] mem (fun v m => pm_Ex ro m_X7_greatestGain 23 [.ref 6, .int x1, .int x2, .int x3] (v.toList ++ []) m Q))) : pm_Ex ro m_X7_greatestGain 8 [.ref 6, .int x1, .int x2, .int x3] [] mem Q := by
  have hS : pm_sig[m_X7_greatestGain]? = some _ := rfl
  have hC : pm_cod[m_X7_greatestGain]? = some _ := rfl
  refine ex_many (pc' := 13) (ls' := [.ref 6, .int x1, .int x2, .int x3]) (st' := [.ref 3, .int x3]) (mem' := mem) hS hC 3 rfl ?_
  refine ex_call (y' := m_X1_allBits) (rest := [.int x3]) (ent := [.ref 3]) hS hC rfl rfl rfl rfl rfl rfl ?_
  refine bk_X1_allBits_0 ?_
  show pm_Ex ro m_X7_greatestGain 16 [.ref 6, .int x1, .int x2, .int x3] [.int (((1 : Int32) <<< ((mem 3 3) &&& 31)) - 1), .int x3] mem Q
  refine ex_br (P := (((1 : Int32) <<< ((mem 3 3) &&& 31)) - 1) < x3) (a := 64) (b := 19) (ls' := [.ref 6, .int x1, .int x2, .int x3]) (st' := []) (mem' := mem) hS hC rfl (fun h => ?_) (fun h => ?_)
  · replace k := k.1 (h)
    refine ex_many (pc' := 65) (ls' := [.ref 6, .int x1, .int x2, .int x3]) (st' := [.int x2]) (mem' := mem) hS hC 1 rfl ?_
    exact ex_ret (v := (some (.int x2))) hS hC rfl rfl rfl k
  · replace k := k.2 (h)
    refine ex_many (pc' := 20) (ls' := [.ref 6, .int x1, .int x2, .int x3]) (st' := [.int x3]) (mem' := mem) hS hC 1 rfl ?_
    refine ex_call (y' := m_J6_bitCount_0f7a4) (rest := []) (ent := [.int x3]) hS hC rfl rfl rfl rfl rfl rfl ?_
    exact k

set_option maxRecDepth 20000 in
theorem bk_X7_greatestGain_4 {ro : pm_RO} {Q : Option Value → pm_M → Prop} {mem : pm_M} {x1 : Int32} (k : pm_Ex ro m_X7_greatestGain 8 [.ref 6, .int x1, .int 1, .int 2] [] mem Q) : pm_Ex ro m_X7_greatestGain 4 [.ref 6, .int x1, .null, .null] [] mem Q := by
  have hS : pm_sig[m_X7_greatestGain]? = some _ := rfl
  have hC : pm_cod[m_X7_greatestGain]? = some _ := rfl
  refine ex_many (pc' := 8) (ls' := [.ref 6, .int x1, .int 1, .int 2]) (st' := []) (mem' := mem) hS hC 4 rfl ?_
  exact k

set_option maxRecDepth 20000 in
theorem bk_X7_greatestGain_23 {ro : pm_RO} {Q : Option Value → pm_M → Prop} {mem : pm_M} {x1 x2 x3 s0 : Int32} (k : (x1 < s0 → pm_Ex ro m_X7_greatestGain 8 [.ref 6, .int x1, .int x2, .int (x3 + 1)] [] mem Q) ∧ (¬ (x1 < s0) → (pm_inb x3 256 = true) ∧ ((pm_inb x3 256 = true) ∧ ((pm_inb x2 256 = true) ∧ ((pm_inb x2 256 = true) ∧ (pm_Ex ro m_X7_greatestGain 8 [.ref 6, .int x1, .int (if ((mem 7 x3.toNatClampNeg) - (mem 8 x3.toNatClampNeg)) ≤ ((mem 7 x2.toNatClampNeg) - (mem 8 x2.toNatClampNeg)) then x2 else x3 : Int32), .int (x3 + 1)] [] mem Q)))))) : pm_Ex ro m_X7_greatestGain 23 [.ref 6, .int x1, .int x2, .int x3] [.int s0] mem Q := by
  have hS : pm_sig[m_X7_greatestGain]? = some _ := rfl
  have hC : pm_cod[m_X7_greatestGain]? = some _ := rfl
  refine ex_many (pc' := 24) (ls' := [.ref 6, .int x1, .int x2, .int x3]) (st' := [.int x1, .int s0]) (mem' := mem) hS hC 1 rfl ?_
  refine ex_br (P := x1 < s0) (a := 58) (b := 27) (ls' := [.ref 6, .int x1, .int x2, .int x3]) (st' := []) (mem' := mem) hS hC rfl (fun h => ?_) (fun h => ?_)
  · replace k := k.1 (h)
    refine ex_many (pc' := 8) (ls' := [.ref 6, .int x1, .int x2, .int (x3 + 1)]) (st' := []) (mem' := mem) hS hC 2 rfl ?_
    exact k
  · replace k := k.2 (h)
    refine ex_many (pc' := 32) (ls' := [.ref 6, .int x1, .int x2, .int x3]) (st' := [.int x3, .ref 7]) (mem' := mem) hS hC 3 rfl ?_
    refine ex_grd (b := pm_inb x3 256) (pc' := 33) (ls' := [.ref 6, .int x1, .int x2, .int x3]) (st' := [.int (mem 7 x3.toNatClampNeg)]) (mem' := mem) hS hC rfl k.1 ?_
    replace k := k.2
    refine ex_many (pc' := 38) (ls' := [.ref 6, .int x1, .int x2, .int x3]) (st' := [.int x3, .ref 8, .int (mem 7 x3.toNatClampNeg)]) (mem' := mem) hS hC 3 rfl ?_
    refine ex_grd (b := pm_inb x3 256) (pc' := 39) (ls' := [.ref 6, .int x1, .int x2, .int x3]) (st' := [.int (mem 8 x3.toNatClampNeg), .int (mem 7 x3.toNatClampNeg)]) (mem' := mem) hS hC rfl k.1 ?_
    replace k := k.2
    refine ex_many (pc' := 45) (ls' := [.ref 6, .int x1, .int x2, .int x3]) (st' := [.int x2, .ref 7, .int ((mem 7 x3.toNatClampNeg) - (mem 8 x3.toNatClampNeg))]) (mem' := mem) hS hC 4 rfl ?_
    refine ex_grd (b := pm_inb x2 256) (pc' := 46) (ls' := [.ref 6, .int x1, .int x2, .int x3]) (st' := [.int (mem 7 x2.toNatClampNeg), .int ((mem 7 x3.toNatClampNeg) - (mem 8 x3.toNatClampNeg))]) (mem' := mem) hS hC rfl k.1 ?_
    replace k := k.2
    refine ex_many (pc' := 51) (ls' := [.ref 6, .int x1, .int x2, .int x3]) (st' := [.int x2, .ref 8, .int (mem 7 x2.toNatClampNeg), .int ((mem 7 x3.toNatClampNeg) - (mem 8 x3.toNatClampNeg))]) (mem' := mem) hS hC 3 rfl ?_
    refine ex_grd (b := pm_inb x2 256) (pc' := 52) (ls' := [.ref 6, .int x1, .int x2, .int x3]) (st' := [.int (mem 8 x2.toNatClampNeg), .int (mem 7 x2.toNatClampNeg), .int ((mem 7 x3.toNatClampNeg) - (mem 8 x3.toNatClampNeg))]) (mem' := mem) hS hC rfl k.1 ?_
    replace k := k.2
    refine ex_many (pc' := 53) (ls' := [.ref 6, .int x1, .int x2, .int x3]) (st' := [.int ((mem 7 x2.toNatClampNeg) - (mem 8 x2.toNatClampNeg)), .int ((mem 7 x3.toNatClampNeg) - (mem 8 x3.toNatClampNeg))]) (mem' := mem) hS hC 1 rfl ?_
    have kp11 : pm_Ex ro m_X7_greatestGain 58 [.ref 6, .int x1, .int (if ((mem 7 x3.toNatClampNeg) - (mem 8 x3.toNatClampNeg)) ≤ ((mem 7 x2.toNatClampNeg) - (mem 8 x2.toNatClampNeg)) then x2 else x3 : Int32), .int x3] [] mem Q := by
      refine ex_many (pc' := 8) (ls' := [.ref 6, .int x1, .int (if ((mem 7 x3.toNatClampNeg) - (mem 8 x3.toNatClampNeg)) ≤ ((mem 7 x2.toNatClampNeg) - (mem 8 x2.toNatClampNeg)) then x2 else x3 : Int32), .int (x3 + 1)]) (st' := []) (mem' := mem) hS hC 2 rfl ?_
      exact k
    refine ex_br (P := ((mem 7 x3.toNatClampNeg) - (mem 8 x3.toNatClampNeg)) ≤ ((mem 7 x2.toNatClampNeg) - (mem 8 x2.toNatClampNeg))) (a := 58) (b := 56) (ls' := [.ref 6, .int x1, .int x2, .int x3]) (st' := []) (mem' := mem) hS hC rfl (fun h => ?_) (fun h => ?_)
    · have kp11a : pm_Ex ro m_X7_greatestGain 58 [.ref 6, .int x1, .int x2, .int x3] [] mem Q := pm_phi1 (f := fun z0 => pm_Ex ro m_X7_greatestGain 58 [.ref 6, .int x1, .int z0, .int x3] [] mem Q) (if_pos (h)) kp11
      exact kp11a
    · have kp11b : pm_Ex ro m_X7_greatestGain 58 [.ref 6, .int x1, .int x3, .int x3] [] mem Q := pm_phi1 (f := fun z0 => pm_Ex ro m_X7_greatestGain 58 [.ref 6, .int x1, .int z0, .int x3] [] mem Q) (if_neg (h)) kp11
      refine ex_many (pc' := 58) (ls' := [.ref 6, .int x1, .int x3, .int x3]) (st' := []) (mem' := mem) hS hC 2 rfl ?_
      exact kp11b

set_option maxRecDepth 20000 in
theorem bk_X7_isProof_0 {ro : pm_RO} {Q : Option Value → pm_M → Prop} {mem : pm_M} {a1 a2 a3 a4 : Int32} (k : pm_Ex ro m_X7_isProof 3 [.ref 6, .int a1, .int a2, .int a3, .int a4, .int 1, .null] [] mem Q) : pm_Ex ro m_X7_isProof 0 [.ref 6, .int a1, .int a2, .int a3, .int a4, .null, .null] [] mem Q := by
  have hS : pm_sig[m_X7_isProof]? = some _ := rfl
  have hC : pm_cod[m_X7_isProof]? = some _ := rfl
  refine ex_many (pc' := 3) (ls' := [.ref 6, .int a1, .int a2, .int a3, .int a4, .int 1, .null]) (st' := []) (mem' := mem) hS hC 2 rfl ?_
  exact k

set_option maxRecDepth 20000 in
theorem bk_X7_isProof_3 {ro : pm_RO} {Q : Option Value → pm_M → Prop} {mem : pm_M} {x1 x2 x3 x4 x5 : Int32} {d6 : Value} (k : ((((1 : Int32) <<< ((mem 3 3) &&& 31)) - 1) < x5 → Q (some (.int 1)) mem) ∧ (¬ ((((1 : Int32) <<< ((mem 3 3) &&& 31)) - 1) < x5) → (¬ (x5 &&& x2) = x1 → pm_Ex ro m_X7_isProof 3 [.ref 6, .int x1, .int x2, .int x3, .int x4, .int (x5 + 1), d6] [] mem Q) ∧ (¬ (¬ (x5 &&& x2) = x1) → (pm_inb x5 256 = true) ∧ (pm_Ex ro m_X2_paidFor 0 [.ref 1, .int ((mem 7 x5.toNatClampNeg) + x3), .null, .null, .null, .null, .null, .null] [] mem (fun v m => pm_Ex ro m_X7_isProof 45 [.ref 6, .int x1, .int x2, .int x3, .int x4, .int x5, .int ((mem 7 x5.toNatClampNeg) + x3)] (v.toList ++ [.int ((mem 7 x5.toNatClampNeg) + x3)]) m Q))))) : pm_Ex ro m_X7_isProof 3 [.ref 6, .int x1, .int x2, .int x3, .int x4, .int x5, d6] [] mem Q := by
  have hS : pm_sig[m_X7_isProof]? = some _ := rfl
  have hC : pm_cod[m_X7_isProof]? = some _ := rfl
  refine ex_many (pc' := 9) (ls' := [.ref 6, .int x1, .int x2, .int x3, .int x4, .int x5, d6]) (st' := [.ref 3, .int x5]) (mem' := mem) hS hC 3 rfl ?_
  refine ex_call (y' := m_X1_allBits) (rest := [.int x5]) (ent := [.ref 3]) hS hC rfl rfl rfl rfl rfl rfl ?_
  refine bk_X1_allBits_0 ?_
  show pm_Ex ro m_X7_isProof 12 [.ref 6, .int x1, .int x2, .int x3, .int x4, .int x5, d6] [.int (((1 : Int32) <<< ((mem 3 3) &&& 31)) - 1), .int x5] mem Q
  refine ex_br (P := (((1 : Int32) <<< ((mem 3 3) &&& 31)) - 1) < x5) (a := 59) (b := 15) (ls' := [.ref 6, .int x1, .int x2, .int x3, .int x4, .int x5, d6]) (st' := []) (mem' := mem) hS hC rfl (fun h => ?_) (fun h => ?_)
  · replace k := k.1 (h)
    refine ex_many (pc' := 60) (ls' := [.ref 6, .int x1, .int x2, .int x3, .int x4, .int x5, d6]) (st' := [.int 1]) (mem' := mem) hS hC 1 rfl ?_
    exact ex_ret (v := (some (.int 1))) hS hC rfl rfl rfl k
  · replace k := k.2 (h)
    refine ex_many (pc' := 20) (ls' := [.ref 6, .int x1, .int x2, .int x3, .int x4, .int x5, d6]) (st' := [.int x1, .int (x5 &&& x2)]) (mem' := mem) hS hC 4 rfl ?_
    refine ex_br (P := ¬ (x5 &&& x2) = x1) (a := 53) (b := 23) (ls' := [.ref 6, .int x1, .int x2, .int x3, .int x4, .int x5, d6]) (st' := []) (mem' := mem) hS hC rfl (fun h => ?_) (fun h => ?_)
    · replace k := k.1 (h)
      refine ex_many (pc' := 3) (ls' := [.ref 6, .int x1, .int x2, .int x3, .int x4, .int (x5 + 1), d6]) (st' := []) (mem' := mem) hS hC 2 rfl ?_
      exact k
    · replace k := k.2 (h)
      refine ex_many (pc' := 29) (ls' := [.ref 6, .int x1, .int x2, .int x3, .int x4, .int x5, d6]) (st' := [.int x5, .ref 7]) (mem' := mem) hS hC 3 rfl ?_
      refine ex_grd (b := pm_inb x5 256) (pc' := 30) (ls' := [.ref 6, .int x1, .int x2, .int x3, .int x4, .int x5, d6]) (st' := [.int (mem 7 x5.toNatClampNeg)]) (mem' := mem) hS hC rfl k.1 ?_
      replace k := k.2
      refine ex_many (pc' := 42) (ls' := [.ref 6, .int x1, .int x2, .int x3, .int x4, .int x5, .int ((mem 7 x5.toNatClampNeg) + x3)]) (st' := [.int ((mem 7 x5.toNatClampNeg) + x3), .ref 1, .int ((mem 7 x5.toNatClampNeg) + x3)]) (mem' := mem) hS hC 7 rfl ?_
      refine ex_call (y' := m_X2_paidFor) (rest := [.int ((mem 7 x5.toNatClampNeg) + x3)]) (ent := [.ref 1, .int ((mem 7 x5.toNatClampNeg) + x3), .null, .null, .null, .null, .null, .null]) hS hC rfl rfl rfl rfl rfl rfl ?_
      exact k

set_option maxRecDepth 20000 in
theorem bk_X7_isProof_45 {ro : pm_RO} {Q : Option Value → pm_M → Prop} {mem : pm_M} {x1 x2 x3 x4 x5 x6 s0 s1 : Int32} (k : ((s1 - s0) ≤ x4 → pm_Ex ro m_X7_isProof 3 [.ref 6, .int x1, .int x2, .int x3, .int x4, .int (x5 + 1), .int x6] [] mem Q) ∧ (¬ ((s1 - s0) ≤ x4) → Q (some (.int 0)) mem)) : pm_Ex ro m_X7_isProof 45 [.ref 6, .int x1, .int x2, .int x3, .int x4, .int x5, .int x6] [.int s0, .int s1] mem Q := by
  have hS : pm_sig[m_X7_isProof]? = some _ := rfl
  have hC : pm_cod[m_X7_isProof]? = some _ := rfl
  refine ex_many (pc' := 48) (ls' := [.ref 6, .int x1, .int x2, .int x3, .int x4, .int x5, .int x6]) (st' := [.int x4, .int (s1 - s0)]) (mem' := mem) hS hC 2 rfl ?_
  refine ex_br (P := (s1 - s0) ≤ x4) (a := 53) (b := 51) (ls' := [.ref 6, .int x1, .int x2, .int x3, .int x4, .int x5, .int x6]) (st' := []) (mem' := mem) hS hC rfl (fun h => ?_) (fun h => ?_)
  · replace k := k.1 (h)
    refine ex_many (pc' := 3) (ls' := [.ref 6, .int x1, .int x2, .int x3, .int x4, .int (x5 + 1), .int x6]) (st' := []) (mem' := mem) hS hC 2 rfl ?_
    exact k
  · replace k := k.2 (h)
    refine ex_many (pc' := 52) (ls' := [.ref 6, .int x1, .int x2, .int x3, .int x4, .int x5, .int x6]) (st' := [.int 0]) (mem' := mem) hS hC 1 rfl ?_
    exact ex_ret (v := (some (.int 0))) hS hC rfl rfl rfl k

set_option maxRecDepth 20000 in
theorem bk_X7_leastRaise_0 {ro : pm_RO} {Q : Option Value → pm_M → Prop} {mem : pm_M} {a1 a2 : Int32} (k : pm_Ex ro m_X7_reckonBills 0 [.ref 6, .null, .null, .null] [] mem (fun v m => pm_Ex ro m_X7_leastRaise 4 [.ref 6, .int a1, .int a2, .null, .null] (v.toList ++ []) m Q)) : pm_Ex ro m_X7_leastRaise 0 [.ref 6, .int a1, .int a2, .null, .null] [] mem Q := by
  have hS : pm_sig[m_X7_leastRaise]? = some _ := rfl
  have hC : pm_cod[m_X7_leastRaise]? = some _ := rfl
  refine ex_many (pc' := 1) (ls' := [.ref 6, .int a1, .int a2, .null, .null]) (st' := [.ref 6]) (mem' := mem) hS hC 1 rfl ?_
  refine ex_call (y' := m_X7_reckonBills) (rest := []) (ent := [.ref 6, .null, .null, .null]) hS hC rfl rfl rfl rfl rfl rfl ?_
  exact k

set_option maxRecDepth 20000 in
theorem bk_X7_leastRaise_24 {ro : pm_RO} {Q : Option Value → pm_M → Prop} {mem : pm_M} {x1 x2 x3 x4 : Int32} (k : (99 < x4 → Q (some (.int (-1))) mem) ∧ (¬ (99 < x4) → pm_Ex ro m_X7_isProof 0 [.ref 6, .int x3, .int x3, .int x4, .int x2, .null, .null] [] mem (fun v m => pm_Ex ro m_X7_leastRaise 40 [.ref 6, .int x1, .int x2, .int x3, .int x4] (v.toList ++ []) m Q))) : pm_Ex ro m_X7_leastRaise 24 [.ref 6, .int x1, .int x2, .int x3, .int x4] [] mem Q := by
  have hS : pm_sig[m_X7_leastRaise]? = some _ := rfl
  have hC : pm_cod[m_X7_leastRaise]? = some _ := rfl
  refine ex_many (pc' := 28) (ls' := [.ref 6, .int x1, .int x2, .int x3, .int x4]) (st' := [.int 99, .int x4]) (mem' := mem) hS hC 2 rfl ?_
  refine ex_br (P := 99 < x4) (a := 52) (b := 31) (ls' := [.ref 6, .int x1, .int x2, .int x3, .int x4]) (st' := []) (mem' := mem) hS hC rfl (fun h => ?_) (fun h => ?_)
  · replace k := k.1 (h)
    refine ex_many (pc' := 53) (ls' := [.ref 6, .int x1, .int x2, .int x3, .int x4]) (st' := [.int (-1)]) (mem' := mem) hS hC 1 rfl ?_
    exact ex_ret (v := (some (.int (-1)))) hS hC rfl rfl rfl k
  · replace k := k.2 (h)
    refine ex_many (pc' := 37) (ls' := [.ref 6, .int x1, .int x2, .int x3, .int x4]) (st' := [.int x2, .int x4, .int x3, .int x3, .ref 6]) (mem' := mem) hS hC 5 rfl ?_
    refine ex_call (y' := m_X7_isProof) (rest := []) (ent := [.ref 6, .int x3, .int x3, .int x4, .int x2, .null, .null]) hS hC rfl rfl rfl rfl rfl rfl ?_
    exact k

set_option maxRecDepth 20000 in
theorem bk_X7_leastRaise_4 {ro : pm_RO} {Q : Option Value → pm_M → Prop} {mem : pm_M} {x1 x2 : Int32} (k : pm_Ex ro m_X7_isProof 0 [.ref 6, .int 0, .int ((1 : Int32) <<< (x1 &&& 31)), .int 0, .int x2, .null, .null] [] mem (fun v m => pm_Ex ro m_X7_leastRaise 16 [.ref 6, .int x1, .int x2, .int ((1 : Int32) <<< (x1 &&& 31)), .null] (v.toList ++ []) m Q)) : pm_Ex ro m_X7_leastRaise 4 [.ref 6, .int x1, .int x2, .null, .null] [] mem Q := by
  have hS : pm_sig[m_X7_leastRaise]? = some _ := rfl
  have hC : pm_cod[m_X7_leastRaise]? = some _ := rfl
  refine ex_many (pc' := 13) (ls' := [.ref 6, .int x1, .int x2, .int ((1 : Int32) <<< (x1 &&& 31)), .null]) (st' := [.int x2, .int 0, .int ((1 : Int32) <<< (x1 &&& 31)), .int 0, .ref 6]) (mem' := mem) hS hC 9 rfl ?_
  refine ex_call (y' := m_X7_isProof) (rest := []) (ent := [.ref 6, .int 0, .int ((1 : Int32) <<< (x1 &&& 31)), .int 0, .int x2, .null, .null]) hS hC rfl rfl rfl rfl rfl rfl ?_
  exact k

set_option maxRecDepth 20000 in
theorem bk_X7_leastRaise_40 {ro : pm_RO} {Q : Option Value → pm_M → Prop} {mem : pm_M} {x1 x2 x3 x4 s0 : Int32} (k : (s0 = 0 → pm_Ex ro m_X7_leastRaise 24 [.ref 6, .int x1, .int x2, .int x3, .int (x4 + 1)] [] mem Q) ∧ (¬ (s0 = 0) → Q (some (.int x4)) mem)) : pm_Ex ro m_X7_leastRaise 40 [.ref 6, .int x1, .int x2, .int x3, .int x4] [.int s0] mem Q := by
  have hS : pm_sig[m_X7_leastRaise]? = some _ := rfl
  have hC : pm_cod[m_X7_leastRaise]? = some _ := rfl
  refine ex_br (P := s0 = 0) (a := 46) (b := 43) (ls' := [.ref 6, .int x1, .int x2, .int x3, .int x4]) (st' := []) (mem' := mem) hS hC rfl (fun h => ?_) (fun h => ?_)
  · replace k := k.1 (h)
    refine ex_many (pc' := 24) (ls' := [.ref 6, .int x1, .int x2, .int x3, .int (x4 + 1)]) (st' := []) (mem' := mem) hS hC 2 rfl ?_
    exact k
  · replace k := k.2 (h)
    refine ex_many (pc' := 45) (ls' := [.ref 6, .int x1, .int x2, .int x3, .int x4]) (st' := [.int x4]) (mem' := mem) hS hC 1 rfl ?_
    exact ex_ret (v := (some (.int x4))) hS hC rfl rfl rfl k

set_option maxRecDepth 20000 in
theorem bk_X7_leastRaise_16 {ro : pm_RO} {Q : Option Value → pm_M → Prop} {mem : pm_M} {x1 x2 x3 s0 : Int32} (k : (¬ s0 = 0 → pm_Ex ro m_X7_leastRaise 24 [.ref 6, .int x1, .int x2, .int x3, .int 0] [] mem Q) ∧ (¬ (¬ s0 = 0) → Q (some (.int (-1))) mem)) : pm_Ex ro m_X7_leastRaise 16 [.ref 6, .int x1, .int x2, .int x3, .null] [.int s0] mem Q := by
  have hS : pm_sig[m_X7_leastRaise]? = some _ := rfl
  have hC : pm_cod[m_X7_leastRaise]? = some _ := rfl
  refine ex_br (P := ¬ s0 = 0) (a := 21) (b := 19) (ls' := [.ref 6, .int x1, .int x2, .int x3, .null]) (st' := []) (mem' := mem) hS hC rfl (fun h => ?_) (fun h => ?_)
  · replace k := k.1 (h)
    refine ex_many (pc' := 24) (ls' := [.ref 6, .int x1, .int x2, .int x3, .int 0]) (st' := []) (mem' := mem) hS hC 2 rfl ?_
    exact k
  · replace k := k.2 (h)
    refine ex_many (pc' := 20) (ls' := [.ref 6, .int x1, .int x2, .int x3, .null]) (st' := [.int (-1)]) (mem' := mem) hS hC 1 rfl ?_
    exact ex_ret (v := (some (.int (-1)))) hS hC rfl rfl rfl k

set_option maxRecDepth 20000 in
theorem bk_X4_ownerOf_0 {ro : pm_RO} {Q : Option Value → pm_M → Prop} {mem : pm_M} {a1 : Int32} (k : (pm_inb a1 8 = true) ∧ (Q (some (.int (mem 12 a1.toNatClampNeg))) mem)) : pm_Ex ro m_X4_ownerOf 0 [.ref 11, .int a1] [] mem Q := by
  have hS : pm_sig[m_X4_ownerOf]? = some _ := rfl
  have hC : pm_cod[m_X4_ownerOf]? = some _ := rfl
  refine ex_many (pc' := 5) (ls' := [.ref 11, .int a1]) (st' := [.int a1, .ref 12]) (mem' := mem) hS hC 3 rfl ?_
  refine ex_grd (b := pm_inb a1 8) (pc' := 6) (ls' := [.ref 11, .int a1]) (st' := [.int (mem 12 a1.toNatClampNeg)]) (mem' := mem) hS hC rfl k.1 ?_
  replace k := k.2
  exact ex_ret (v := (some (.int (mem 12 a1.toNatClampNeg)))) hS hC rfl rfl rfl k

set_option maxRecDepth 20000 in
theorem bk_X4_give_0 {ro : pm_RO} {Q : Option Value → pm_M → Prop} {mem : pm_M} {a1 a2 : Int32} (k : (pm_inb a1 8 = true) ∧ (Q none (pm_up mem 12 a1.toNatClampNeg a2))) : pm_Ex ro m_X4_give 0 [.ref 11, .int a1, .int a2] [] mem Q := by
  have hS : pm_sig[m_X4_give]? = some _ := rfl
  have hC : pm_cod[m_X4_give]? = some _ := rfl
  refine ex_many (pc' := 6) (ls' := [.ref 11, .int a1, .int a2]) (st' := [.int a2, .int a1, .ref 12]) (mem' := mem) hS hC 4 rfl ?_
  refine ex_grd (b := pm_inb a1 8) (pc' := 7) (ls' := [.ref 11, .int a1, .int a2]) (st' := []) (mem' := pm_up mem 12 a1.toNatClampNeg a2) hS hC rfl k.1 ?_
  replace k := k.2
  exact ex_ret (v := none) hS hC rfl rfl rfl k

set_option maxRecDepth 20000 in
theorem bk_X4_paidBySet_0 {ro : pm_RO} {Q : Option Value → pm_M → Prop} {mem : pm_M} {a1 : Int32} (k : pm_Ex ro m_X4_paidBySet 4 [.ref 11, .int a1, .int 0, .int 0] [] mem Q) : pm_Ex ro m_X4_paidBySet 0 [.ref 11, .int a1, .null, .null] [] mem Q := by
  have hS : pm_sig[m_X4_paidBySet]? = some _ := rfl
  have hC : pm_cod[m_X4_paidBySet]? = some _ := rfl
  refine ex_many (pc' := 4) (ls' := [.ref 11, .int a1, .int 0, .int 0]) (st' := []) (mem' := mem) hS hC 4 rfl ?_
  exact k

set_option maxRecDepth 20000 in
theorem bk_X4_paidBySet_4 {ro : pm_RO} {Q : Option Value → pm_M → Prop} {mem : pm_M} {x1 x2 x3 : Int32} (k : ((mem 3 3) ≤ x3 → pm_Ex ro m_X2_paidFor 0 [.ref 1, .int x2, .null, .null, .null, .null, .null, .null] [] mem (fun v m => pm_Ex ro m_X4_paidBySet 53 [.ref 11, .int x1, .int x2, .int x3] (v.toList ++ []) m Q)) ∧ (¬ ((mem 3 3) ≤ x3) → (pm_inb x3 8 = true) ∧ (((x1 &&& ((1 : Int32) <<< ((mem 12 x3.toNatClampNeg) &&& 31))) = 0 → pm_Ex ro m_X4_paidBySet 4 [.ref 11, .int x1, .int x2, .int (x3 + 1)] [] mem Q) ∧ (¬ ((x1 &&& ((1 : Int32) <<< ((mem 12 x3.toNatClampNeg) &&& 31))) = 0) → (pm_inb x3 8 = true) ∧ (pm_Ex ro m_X4_paidBySet 4 [.ref 11, .int x1, .int (x2 + (mem 5 x3.toNatClampNeg)), .int (x3 + 1)] [] mem Q))))) : pm_Ex ro m_X4_paidBySet 4 [.ref 11, .int x1, .int x2, .int x3] [] mem Q := by
  have hS : pm_sig[m_X4_paidBySet]? = some _ := rfl
  have hC : pm_cod[m_X4_paidBySet]? = some _ := rfl
  refine ex_many (pc' := 9) (ls' := [.ref 11, .int x1, .int x2, .int x3]) (st' := [.ref 3, .int x3]) (mem' := mem) hS hC 3 rfl ?_
  refine ex_call (y' := m_X1_size) (rest := [.int x3]) (ent := [.ref 3]) hS hC rfl rfl rfl rfl rfl rfl ?_
  refine bk_X1_size_0 ?_
  show pm_Ex ro m_X4_paidBySet 12 [.ref 11, .int x1, .int x2, .int x3] [.int (mem 3 3), .int x3] mem Q
  refine ex_br (P := (mem 3 3) ≤ x3) (a := 45) (b := 15) (ls' := [.ref 11, .int x1, .int x2, .int x3]) (st' := []) (mem' := mem) hS hC rfl (fun h => ?_) (fun h => ?_)
  · replace k := k.1 (h)
    refine ex_many (pc' := 50) (ls' := [.ref 11, .int x1, .int x2, .int x3]) (st' := [.int x2, .ref 1]) (mem' := mem) hS hC 3 rfl ?_
    refine ex_call (y' := m_X2_paidFor) (rest := []) (ent := [.ref 1, .int x2, .null, .null, .null, .null, .null, .null]) hS hC rfl rfl rfl rfl rfl rfl ?_
    exact k
  · replace k := k.2 (h)
    refine ex_many (pc' := 22) (ls' := [.ref 11, .int x1, .int x2, .int x3]) (st' := [.int x3, .ref 12, .int 1, .int x1]) (mem' := mem) hS hC 5 rfl ?_
    refine ex_grd (b := pm_inb x3 8) (pc' := 23) (ls' := [.ref 11, .int x1, .int x2, .int x3]) (st' := [.int (mem 12 x3.toNatClampNeg), .int 1, .int x1]) (mem' := mem) hS hC rfl k.1 ?_
    replace k := k.2
    refine ex_many (pc' := 25) (ls' := [.ref 11, .int x1, .int x2, .int x3]) (st' := [.int (x1 &&& ((1 : Int32) <<< ((mem 12 x3.toNatClampNeg) &&& 31)))]) (mem' := mem) hS hC 2 rfl ?_
    refine ex_br (P := (x1 &&& ((1 : Int32) <<< ((mem 12 x3.toNatClampNeg) &&& 31))) = 0) (a := 39) (b := 28) (ls' := [.ref 11, .int x1, .int x2, .int x3]) (st' := []) (mem' := mem) hS hC rfl (fun h => ?_) (fun h => ?_)
    · replace k := k.1 (h)
      refine ex_many (pc' := 4) (ls' := [.ref 11, .int x1, .int x2, .int (x3 + 1)]) (st' := []) (mem' := mem) hS hC 2 rfl ?_
      exact k
    · replace k := k.2 (h)
      refine ex_many (pc' := 34) (ls' := [.ref 11, .int x1, .int x2, .int x3]) (st' := [.int x3, .ref 3, .int x2]) (mem' := mem) hS hC 4 rfl ?_
      refine ex_call (y' := m_X1_priceOf) (rest := [.int x2]) (ent := [.ref 3, .int x3]) hS hC rfl rfl rfl rfl rfl rfl ?_
      refine bk_X1_priceOf_0 ⟨k.1, ?_⟩
      replace k := k.2
      show pm_Ex ro m_X4_paidBySet 37 [.ref 11, .int x1, .int x2, .int x3] [.int (mem 5 x3.toNatClampNeg), .int x2] mem Q
      refine ex_many (pc' := 4) (ls' := [.ref 11, .int x1, .int (x2 + (mem 5 x3.toNatClampNeg)), .int (x3 + 1)]) (st' := []) (mem' := mem) hS hC 4 rfl ?_
      exact k

set_option maxRecDepth 20000 in
theorem bk_X4_paidBySet_53 {ro : pm_RO} {Q : Option Value → pm_M → Prop} {mem : pm_M} {x1 x2 x3 s0 : Int32} (k : Q (some (.int s0)) mem) : pm_Ex ro m_X4_paidBySet 53 [.ref 11, .int x1, .int x2, .int x3] [.int s0] mem Q := by
  have hS : pm_sig[m_X4_paidBySet]? = some _ := rfl
  have hC : pm_cod[m_X4_paidBySet]? = some _ := rfl
  exact ex_ret (v := (some (.int s0))) hS hC rfl rfl rfl k

set_option maxRecDepth 20000 in
theorem bk_X4_broughtInAllOrders_0 {ro : pm_RO} {Q : Option Value → pm_M → Prop} {mem : pm_M} {a1 : Int32} (k : pm_Ex ro m_X4_broughtInAllOrders 9 [.ref 11, .int a1, .int ((1 : Int32) <<< (a1 &&& 31)), .long 0, .null, .int 0, .null] [] mem Q) : pm_Ex ro m_X4_broughtInAllOrders 0 [.ref 11, .int a1, .null, .null, .null, .null, .null] [] mem Q := by
  have hS : pm_sig[m_X4_broughtInAllOrders]? = some _ := rfl
  have hC : pm_cod[m_X4_broughtInAllOrders]? = some _ := rfl
  refine ex_many (pc' := 9) (ls' := [.ref 11, .int a1, .int ((1 : Int32) <<< (a1 &&& 31)), .long 0, .null, .int 0, .null]) (st' := []) (mem' := mem) hS hC 8 rfl ?_
  exact k

set_option maxRecDepth 20000 in
theorem bk_X4_broughtInAllOrders_9 {ro : pm_RO} {Q : Option Value → pm_M → Prop} {mem : pm_M} {x1 x2 x5 : Int32} {x3 : Int64} {d6 : Value} (k : (16 ≤ x5 → Q (some (.long x3)) mem) ∧ (¬ (16 ≤ x5) → (¬ (x5 &&& x2) = 0 → pm_Ex ro m_X4_broughtInAllOrders 9 [.ref 11, .int x1, .int x2, .long x3, .null, .int (x5 + 1), d6] [] mem Q) ∧ (¬ (¬ (x5 &&& x2) = 0) → pm_Ex ro m_J6_bitCount_0f7a4 0 [.int x5] [] mem (fun v m => pm_Ex ro m_X4_broughtInAllOrders 31 [.ref 11, .int x1, .int x2, .long x3, .null, .int x5, d6] (v.toList ++ [.ref 51]) m Q)))) : pm_Ex ro m_X4_broughtInAllOrders 9 [.ref 11, .int x1, .int x2, .long x3, .null, .int x5, d6] [] mem Q := by
  have hS : pm_sig[m_X4_broughtInAllOrders]? = some _ := rfl
  have hC : pm_cod[m_X4_broughtInAllOrders]? = some _ := rfl
  refine ex_many (pc' := 13) (ls' := [.ref 11, .int x1, .int x2, .long x3, .null, .int x5, d6]) (st' := [.int 16, .int x5]) (mem' := mem) hS hC 2 rfl ?_
  refine ex_br (P := 16 ≤ x5) (a := 62) (b := 16) (ls' := [.ref 11, .int x1, .int x2, .long x3, .null, .int x5, d6]) (st' := []) (mem' := mem) hS hC rfl (fun h => ?_) (fun h => ?_)
  · replace k := k.1 (h)
    refine ex_many (pc' := 63) (ls' := [.ref 11, .int x1, .int x2, .long x3, .null, .int x5, d6]) (st' := [.long x3]) (mem' := mem) hS hC 1 rfl ?_
    exact ex_ret (v := (some (.long x3))) hS hC rfl rfl rfl k
  · replace k := k.2 (h)
    refine ex_many (pc' := 20) (ls' := [.ref 11, .int x1, .int x2, .long x3, .null, .int x5, d6]) (st' := [.int (x5 &&& x2)]) (mem' := mem) hS hC 3 rfl ?_
    refine ex_br (P := ¬ (x5 &&& x2) = 0) (a := 56) (b := 23) (ls' := [.ref 11, .int x1, .int x2, .long x3, .null, .int x5, d6]) (st' := []) (mem' := mem) hS hC rfl (fun h => ?_) (fun h => ?_)
    · replace k := k.1 (h)
      refine ex_many (pc' := 9) (ls' := [.ref 11, .int x1, .int x2, .long x3, .null, .int (x5 + 1), d6]) (st' := []) (mem' := mem) hS hC 2 rfl ?_
      exact k
    · replace k := k.2 (h)
      refine ex_many (pc' := 28) (ls' := [.ref 11, .int x1, .int x2, .long x3, .null, .int x5, d6]) (st' := [.int x5, .ref 51]) (mem' := mem) hS hC 2 rfl ?_
      refine ex_call (y' := m_J6_bitCount_0f7a4) (rest := [.ref 51]) (ent := [.int x5]) hS hC rfl rfl rfl rfl rfl rfl ?_
      exact k

set_option maxRecDepth 20000 in
theorem bk_X4_broughtInAllOrders_31 {ro : pm_RO} {Q : Option Value → pm_M → Prop} {mem : pm_M} {rf51 : Nat → Int32} (hr51 : ro 51 = some (4, rf51)) {x1 x2 x5 s0 : Int32} {x3 : Int64} {d6 : Value} (k : (pm_inb s0 4 = true) ∧ (pm_Ex ro m_X4_paidBySet 0 [.ref 11, .int (x5 ||| x2), .null, .null] [] mem (fun v m => pm_Ex ro m_X4_broughtInAllOrders 45 [.ref 11, .int x1, .int x2, .long x3, .null, .int x5, .int (rf51 s0.toNatClampNeg)] (v.toList ++ [.int (rf51 s0.toNatClampNeg), .long x3]) m Q))) : pm_Ex ro m_X4_broughtInAllOrders 31 [.ref 11, .int x1, .int x2, .long x3, .null, .int x5, d6] [.int s0, .ref 51] mem Q := by
  have hS : pm_sig[m_X4_broughtInAllOrders]? = some _ := rfl
  have hC : pm_cod[m_X4_broughtInAllOrders]? = some _ := rfl
  refine ex_aldR hS hC rfl rfl hr51 k.1 ?_
  replace k := k.2
  show pm_Ex ro m_X4_broughtInAllOrders 32 [.ref 11, .int x1, .int x2, .long x3, .null, .int x5, d6] [.int (rf51 s0.toNatClampNeg)] mem Q
  refine ex_many (pc' := 42) (ls' := [.ref 11, .int x1, .int x2, .long x3, .null, .int x5, .int (rf51 s0.toNatClampNeg)]) (st' := [.int (x5 ||| x2), .ref 11, .int (rf51 s0.toNatClampNeg), .long x3]) (mem' := mem) hS hC 7 rfl ?_
  refine ex_call (y' := m_X4_paidBySet) (rest := [.int (rf51 s0.toNatClampNeg), .long x3]) (ent := [.ref 11, .int (x5 ||| x2), .null, .null]) hS hC rfl rfl rfl rfl rfl rfl ?_
  exact k

set_option maxRecDepth 20000 in
theorem bk_X4_broughtInAllOrders_45 {ro : pm_RO} {Q : Option Value → pm_M → Prop} {mem : pm_M} {x1 x2 x5 x6 s0 s1 : Int32} {x3 s2 : Int64} (k : pm_Ex ro m_X4_paidBySet 0 [.ref 11, .int x5, .null, .null] [] mem (fun v m => pm_Ex ro m_X4_broughtInAllOrders 51 [.ref 11, .int x1, .int x2, .long x3, .null, .int x5, .int x6] (v.toList ++ [.int s0, .int s1, .long s2]) m Q)) : pm_Ex ro m_X4_broughtInAllOrders 45 [.ref 11, .int x1, .int x2, .long x3, .null, .int x5, .int x6] [.int s0, .int s1, .long s2] mem Q := by
  have hS : pm_sig[m_X4_broughtInAllOrders]? = some _ := rfl
  have hC : pm_cod[m_X4_broughtInAllOrders]? = some _ := rfl
  refine ex_many (pc' := 48) (ls' := [.ref 11, .int x1, .int x2, .long x3, .null, .int x5, .int x6]) (st' := [.int x5, .ref 11, .int s0, .int s1, .long s2]) (mem' := mem) hS hC 2 rfl ?_
  refine ex_call (y' := m_X4_paidBySet) (rest := [.int s0, .int s1, .long s2]) (ent := [.ref 11, .int x5, .null, .null]) hS hC rfl rfl rfl rfl rfl rfl ?_
  exact k

set_option maxRecDepth 20000 in
theorem bk_X4_broughtInAllOrders_51 {ro : pm_RO} {Q : Option Value → pm_M → Prop} {mem : pm_M} {x1 x2 x5 x6 s0 s1 s2 : Int32} {x3 s3 : Int64} (k : pm_Ex ro m_X4_broughtInAllOrders 9 [.ref 11, .int x1, .int x2, .long (s3 + ((s2 * (s1 - s0)).toInt64)), .null, .int (x5 + 1), .int x6] [] mem Q) : pm_Ex ro m_X4_broughtInAllOrders 51 [.ref 11, .int x1, .int x2, .long x3, .null, .int x5, .int x6] [.int s0, .int s1, .int s2, .long s3] mem Q := by
  have hS : pm_sig[m_X4_broughtInAllOrders]? = some _ := rfl
  have hC : pm_cod[m_X4_broughtInAllOrders]? = some _ := rfl
  refine ex_many (pc' := 9) (ls' := [.ref 11, .int x1, .int x2, .long (s3 + ((s2 * (s1 - s0)).toInt64)), .null, .int (x5 + 1), .int x6]) (st' := []) (mem' := mem) hS hC 7 rfl ?_
  exact k

set_option maxRecDepth 20000 in
theorem bk_X4_commonWithOrders_0 {ro : pm_RO} {Q : Option Value → pm_M → Prop} {mem : pm_M} {a1 : Int64} (k : pm_Ex ro m_X4_commonWithOrders 3 [.long a1, .null, .int 24] [] mem Q) : pm_Ex ro m_X4_commonWithOrders 0 [.long a1, .null, .null] [] mem Q := by
  have hS : pm_sig[m_X4_commonWithOrders]? = some _ := rfl
  have hC : pm_cod[m_X4_commonWithOrders]? = some _ := rfl
  refine ex_many (pc' := 3) (ls' := [.long a1, .null, .int 24]) (st' := []) (mem' := mem) hS hC 2 rfl ?_
  exact k

set_option maxRecDepth 20000 in
theorem bk_X4_commonWithOrders_3 {ro : pm_RO} {Q : Option Value → pm_M → Prop} {mem : pm_M} {x2 : Int32} {x0 : Int64} (k : (x2 ≤ 1 → Q (some (.int x2)) mem) ∧ (¬ (x2 ≤ 1) → (¬ x2 = 0) ∧ ((¬ (24 - 24 / x2 * x2) = 0 → pm_Ex ro m_X4_commonWithOrders 3 [.long x0, .null, .int (x2 + (-1))] [] mem Q) ∧ (¬ (¬ (24 - 24 / x2 * x2) = 0) → (¬ x2.toInt64 = 0) ∧ (((lg_cmp (x0 - x0 / x2.toInt64 * x2.toInt64) 0) = 0 → Q (some (.int x2)) mem) ∧ (¬ ((lg_cmp (x0 - x0 / x2.toInt64 * x2.toInt64) 0) = 0) → pm_Ex ro m_X4_commonWithOrders 3 [.long x0, .null, .int (x2 + (-1))] [] mem Q)))))) : pm_Ex ro m_X4_commonWithOrders 3 [.long x0, .null, .int x2] [] mem Q := by
  have hS : pm_sig[m_X4_commonWithOrders]? = some _ := rfl
  have hC : pm_cod[m_X4_commonWithOrders]? = some _ := rfl
  refine ex_many (pc' := 5) (ls' := [.long x0, .null, .int x2]) (st' := [.int 1, .int x2]) (mem' := mem) hS hC 2 rfl ?_
  refine ex_br (P := x2 ≤ 1) (a := 30) (b := 8) (ls' := [.long x0, .null, .int x2]) (st' := []) (mem' := mem) hS hC rfl (fun h => ?_) (fun h => ?_)
  · replace k := k.1 (h)
    refine ex_many (pc' := 31) (ls' := [.long x0, .null, .int x2]) (st' := [.int x2]) (mem' := mem) hS hC 1 rfl ?_
    exact ex_ret (v := (some (.int x2))) hS hC rfl rfl rfl k
  · replace k := k.2 (h)
    refine ex_many (pc' := 11) (ls' := [.long x0, .null, .int x2]) (st' := [.int x2, .int 24]) (mem' := mem) hS hC 2 rfl ?_
    refine ex_grd (b := !(decide (x2 = 0))) (pc' := 12) (ls' := [.long x0, .null, .int x2]) (st' := [.int (24 - 24 / x2 * x2)]) (mem' := mem) hS hC rfl (pm_nz k.1) ?_
    replace k := k.2
    refine ex_br (P := ¬ (24 - 24 / x2 * x2) = 0) (a := 24) (b := 15) (ls' := [.long x0, .null, .int x2]) (st' := []) (mem' := mem) hS hC rfl (fun h => ?_) (fun h => ?_)
    · replace k := k.1 (h)
      refine ex_many (pc' := 3) (ls' := [.long x0, .null, .int (x2 + (-1))]) (st' := []) (mem' := mem) hS hC 2 rfl ?_
      exact k
    · replace k := k.2 (h)
      refine ex_many (pc' := 18) (ls' := [.long x0, .null, .int x2]) (st' := [.long x2.toInt64, .long x0]) (mem' := mem) hS hC 3 rfl ?_
      refine ex_grd (b := !(decide (x2.toInt64 = 0))) (pc' := 19) (ls' := [.long x0, .null, .int x2]) (st' := [.long (x0 - x0 / x2.toInt64 * x2.toInt64)]) (mem' := mem) hS hC rfl (pm_nzl k.1) ?_
      replace k := k.2
      refine ex_many (pc' := 21) (ls' := [.long x0, .null, .int x2]) (st' := [.int (lg_cmp (x0 - x0 / x2.toInt64 * x2.toInt64) 0)]) (mem' := mem) hS hC 2 rfl ?_
      refine ex_br (P := (lg_cmp (x0 - x0 / x2.toInt64 * x2.toInt64) 0) = 0) (a := 30) (b := 24) (ls' := [.long x0, .null, .int x2]) (st' := []) (mem' := mem) hS hC rfl (fun h => ?_) (fun h => ?_)
      · replace k := k.1 (h)
        refine ex_many (pc' := 31) (ls' := [.long x0, .null, .int x2]) (st' := [.int x2]) (mem' := mem) hS hC 1 rfl ?_
        exact ex_ret (v := (some (.int x2))) hS hC rfl rfl rfl k
      · replace k := k.2 (h)
        refine ex_many (pc' := 3) (ls' := [.long x0, .null, .int (x2 + (-1))]) (st' := []) (mem' := mem) hS hC 2 rfl ?_
        exact k

set_option maxRecDepth 20000 in
theorem bk_X5_payOn_0 {ro : pm_RO} {Q : Option Value → pm_M → Prop} {mem : pm_M} {a1 a2 : Int32} (k : pm_Ex ro m_X2_paidFor 0 [.ref 1, .int a2, .null, .null, .null, .null, .null, .null] [] mem (fun v m => pm_Ex ro m_X5_payOn 8 [.ref 13, .int a1, .int a2, .null] (v.toList ++ []) m Q)) : pm_Ex ro m_X5_payOn 0 [.ref 13, .int a1, .int a2, .null] [] mem Q := by
  have hS : pm_sig[m_X5_payOn]? = some _ := rfl
  have hC : pm_cod[m_X5_payOn]? = some _ := rfl
  refine ex_many (pc' := 5) (ls' := [.ref 13, .int a1, .int a2, .null]) (st' := [.int a2, .ref 1]) (mem' := mem) hS hC 3 rfl ?_
  refine ex_call (y' := m_X2_paidFor) (rest := []) (ent := [.ref 1, .int a2, .null, .null, .null, .null, .null, .null]) hS hC rfl rfl rfl rfl rfl rfl ?_
  exact k

set_option maxRecDepth 20000 in
theorem bk_X5_payOn_21 {ro : pm_RO} {Q : Option Value → pm_M → Prop} {mem : pm_M} {x1 x2 x3 : Int32} (k : (200 ≤ (mem 13 2) → Q none mem) ∧ (¬ (200 ≤ (mem 13 2)) → (pm_inb (mem 13 2) 201 = true) ∧ (((mem 14 ((mem 13 2).toNatClampNeg)) < x3 → Q none mem) ∧ (¬ ((mem 14 ((mem 13 2).toNatClampNeg)) < x3) → (pm_inb (mem 13 2) 201 = true) ∧ (pm_Ex ro m_X2_paidFor 0 [.ref 1, .int ((mem 14 ((mem 13 2).toNatClampNeg)) - x3), .null, .null, .null, .null, .null, .null] [] mem (fun v m => pm_Ex ro m_X5_payOn 72 [.ref 13, .int x1, .int x2, .int x3] (v.toList ++ [.int ((mem 13 2) + 1), .ref 14]) m Q)))))) : pm_Ex ro m_X5_payOn 21 [.ref 13, .int x1, .int x2, .int x3] [] mem Q := by
  have hS : pm_sig[m_X5_payOn]? = some _ := rfl
  have hC : pm_cod[m_X5_payOn]? = some _ := rfl
  refine ex_many (pc' := 28) (ls' := [.ref 13, .int x1, .int x2, .int x3]) (st' := [.int 200, .int (mem 13 2)]) (mem' := mem) hS hC 3 rfl ?_
  refine ex_br (P := 200 ≤ (mem 13 2)) (a := 86) (b := 31) (ls' := [.ref 13, .int x1, .int x2, .int x3]) (st' := []) (mem' := mem) hS hC rfl (fun h => ?_) (fun h => ?_)
  · replace k := k.1 (h)
    exact ex_ret (v := none) hS hC rfl rfl rfl k
  · replace k := k.2 (h)
    refine ex_many (pc' := 40) (ls' := [.ref 13, .int x1, .int x2, .int x3]) (st' := [.int (mem 13 2), .ref 14, .int x3]) (mem' := mem) hS hC 5 rfl ?_
    refine ex_grd (b := pm_inb (mem 13 2) 201) (pc' := 41) (ls' := [.ref 13, .int x1, .int x2, .int x3]) (st' := [.int (mem 14 ((mem 13 2).toNatClampNeg)), .int x3]) (mem' := mem) hS hC rfl k.1 ?_
    replace k := k.2
    refine ex_br (P := (mem 14 ((mem 13 2).toNatClampNeg)) < x3) (a := 86) (b := 44) (ls' := [.ref 13, .int x1, .int x2, .int x3]) (st' := []) (mem' := mem) hS hC rfl (fun h => ?_) (fun h => ?_)
    · replace k := k.1 (h)
      exact ex_ret (v := none) hS hC rfl rfl rfl k
    · replace k := k.2 (h)
      refine ex_many (pc' := 66) (ls' := [.ref 13, .int x1, .int x2, .int x3]) (st' := [.int (mem 13 2), .ref 14, .ref 1, .int ((mem 13 2) + 1), .ref 14]) (mem' := mem) hS hC 12 rfl ?_
      refine ex_grd (b := pm_inb (mem 13 2) 201) (pc' := 67) (ls' := [.ref 13, .int x1, .int x2, .int x3]) (st' := [.int (mem 14 ((mem 13 2).toNatClampNeg)), .ref 1, .int ((mem 13 2) + 1), .ref 14]) (mem' := mem) hS hC rfl k.1 ?_
      replace k := k.2
      refine ex_many (pc' := 69) (ls' := [.ref 13, .int x1, .int x2, .int x3]) (st' := [.int ((mem 14 ((mem 13 2).toNatClampNeg)) - x3), .ref 1, .int ((mem 13 2) + 1), .ref 14]) (mem' := mem) hS hC 2 rfl ?_
      refine ex_call (y' := m_X2_paidFor) (rest := [.int ((mem 13 2) + 1), .ref 14]) (ent := [.ref 1, .int ((mem 14 ((mem 13 2).toNatClampNeg)) - x3), .null, .null, .null, .null, .null, .null]) hS hC rfl rfl rfl rfl rfl rfl ?_
      exact k

set_option maxRecDepth 20000 in
theorem bk_X5_payOn_8 {ro : pm_RO} {Q : Option Value → pm_M → Prop} {mem : pm_M} {x1 x2 s0 : Int32} (k : pm_Ex ro m_X5_payOn 21 [.ref 13, .int x1, .int x2, .int s0] [] (pm_up (pm_up mem 14 0 x1) 13 2 0) Q) : pm_Ex ro m_X5_payOn 8 [.ref 13, .int x1, .int x2, .null] [.int s0] mem Q := by
  have hS : pm_sig[m_X5_payOn]? = some _ := rfl
  have hC : pm_cod[m_X5_payOn]? = some _ := rfl
  refine ex_many (pc' := 21) (ls' := [.ref 13, .int x1, .int x2, .int s0]) (st' := []) (mem' := pm_up (pm_up mem 14 0 x1) 13 2 0) hS hC 9 rfl ?_
  exact k

set_option maxRecDepth 20000 in
theorem bk_X5_payOn_72 {ro : pm_RO} {Q : Option Value → pm_M → Prop} {mem : pm_M} {x1 x2 x3 s0 s1 : Int32} (k : (pm_inb s1 201 = true) ∧ (pm_Ex ro m_X5_payOn 21 [.ref 13, .int x1, .int x2, .int x3] [] (pm_up (pm_up mem 14 s1.toNatClampNeg s0) 13 2 ((mem 13 2) + 1)) Q)) : pm_Ex ro m_X5_payOn 72 [.ref 13, .int x1, .int x2, .int x3] [.int s0, .int s1, .ref 14] mem Q := by
  have hS : pm_sig[m_X5_payOn]? = some _ := rfl
  have hC : pm_cod[m_X5_payOn]? = some _ := rfl
  refine ex_grd (b := pm_inb s1 201) (pc' := 73) (ls' := [.ref 13, .int x1, .int x2, .int x3]) (st' := []) (mem' := pm_up mem 14 s1.toNatClampNeg s0) hS hC rfl k.1 ?_
  replace k := k.2
  refine ex_many (pc' := 21) (ls' := [.ref 13, .int x1, .int x2, .int x3]) (st' := []) (mem' := pm_up (pm_up mem 14 s1.toNatClampNeg s0) 13 2 ((mem 13 2) + 1)) hS hC 7 rfl ?_
  exact k

set_option maxRecDepth 20000 in
theorem bk_X5_roundsPaid_0 {ro : pm_RO} {Q : Option Value → pm_M → Prop} {mem : pm_M} (k : Q (some (.int (mem 13 2))) mem) : pm_Ex ro m_X5_roundsPaid 0 [.ref 13] [] mem Q := by
  have hS : pm_sig[m_X5_roundsPaid]? = some _ := rfl
  have hC : pm_cod[m_X5_roundsPaid]? = some _ := rfl
  refine ex_many (pc' := 4) (ls' := [.ref 13]) (st' := [.int (mem 13 2)]) (mem' := mem) hS hC 2 rfl ?_
  exact ex_ret (v := (some (.int (mem 13 2)))) hS hC rfl rfl rfl k

set_option maxRecDepth 20000 in
theorem bk_X5_contents_0 {ro : pm_RO} {Q : Option Value → pm_M → Prop} {mem : pm_M} (k : (pm_inb (mem 13 2) 201 = true) ∧ (Q (some (.int (mem 14 ((mem 13 2).toNatClampNeg)))) mem)) : pm_Ex ro m_X5_contents 0 [.ref 13] [] mem Q := by
  have hS : pm_sig[m_X5_contents]? = some _ := rfl
  have hC : pm_cod[m_X5_contents]? = some _ := rfl
  refine ex_many (pc' := 8) (ls' := [.ref 13]) (st' := [.int (mem 13 2), .ref 14]) (mem' := mem) hS hC 4 rfl ?_
  refine ex_grd (b := pm_inb (mem 13 2) 201) (pc' := 9) (ls' := [.ref 13]) (st' := [.int (mem 14 ((mem 13 2).toNatClampNeg))]) (mem' := mem) hS hC rfl k.1 ?_
  replace k := k.2
  exact ex_ret (v := (some (.int (mem 14 ((mem 13 2).toNatClampNeg))))) hS hC rfl rfl rfl k

set_option maxRecDepth 20000 in
theorem bk_X5_firstReturn_0 {ro : pm_RO} {Q : Option Value → pm_M → Prop} {mem : pm_M} (k : pm_Ex ro m_X5_firstReturn 2 [.ref 13, .int 1, .null] [] mem Q) : pm_Ex ro m_X5_firstReturn 0 [.ref 13, .null, .null] [] mem Q := by
  have hS : pm_sig[m_X5_firstReturn]? = some _ := rfl
  have hC : pm_cod[m_X5_firstReturn]? = some _ := rfl
  refine ex_many (pc' := 2) (ls' := [.ref 13, .int 1, .null]) (st' := []) (mem' := mem) hS hC 2 rfl ?_
  exact k

set_option maxRecDepth 20000 in
theorem bk_X5_firstReturn_2 {ro : pm_RO} {Q : Option Value → pm_M → Prop} {mem : pm_M} {x1 : Int32} {d2 : Value} (k : ((mem 13 2) < x1 → Q (some (.int (-1))) mem) ∧ (¬ ((mem 13 2) < x1) → pm_Ex ro m_X5_firstReturn 12 [.ref 13, .int x1, .int 0] [] mem Q)) : pm_Ex ro m_X5_firstReturn 2 [.ref 13, .int x1, d2] [] mem Q := by
  have hS : pm_sig[m_X5_firstReturn]? = some _ := rfl
  have hC : pm_cod[m_X5_firstReturn]? = some _ := rfl
  refine ex_many (pc' := 7) (ls' := [.ref 13, .int x1, d2]) (st' := [.int (mem 13 2), .int x1]) (mem' := mem) hS hC 3 rfl ?_
  refine ex_br (P := (mem 13 2) < x1) (a := 46) (b := 10) (ls' := [.ref 13, .int x1, d2]) (st' := []) (mem' := mem) hS hC rfl (fun h => ?_) (fun h => ?_)
  · replace k := k.1 (h)
    refine ex_many (pc' := 47) (ls' := [.ref 13, .int x1, d2]) (st' := [.int (-1)]) (mem' := mem) hS hC 1 rfl ?_
    exact ex_ret (v := (some (.int (-1)))) hS hC rfl rfl rfl k
  · replace k := k.2 (h)
    refine ex_many (pc' := 12) (ls' := [.ref 13, .int x1, .int 0]) (st' := []) (mem' := mem) hS hC 2 rfl ?_
    exact k

set_option maxRecDepth 20000 in
theorem bk_X5_firstReturn_12 {ro : pm_RO} {Q : Option Value → pm_M → Prop} {mem : pm_M} {x1 x2 : Int32} (k : (x1 ≤ x2 → pm_Ex ro m_X5_firstReturn 2 [.ref 13, .int (x1 + 1), .int x2] [] mem Q) ∧ (¬ (x1 ≤ x2) → (pm_inb x2 201 = true) ∧ ((pm_inb x1 201 = true) ∧ ((¬ (mem 14 x2.toNatClampNeg) = (mem 14 x1.toNatClampNeg) → pm_Ex ro m_X5_firstReturn 12 [.ref 13, .int x1, .int (x2 + 1)] [] mem Q) ∧ (¬ (¬ (mem 14 x2.toNatClampNeg) = (mem 14 x1.toNatClampNeg)) → Q (some (.int x1)) mem))))) : pm_Ex ro m_X5_firstReturn 12 [.ref 13, .int x1, .int x2] [] mem Q := by
  have hS : pm_sig[m_X5_firstReturn]? = some _ := rfl
  have hC : pm_cod[m_X5_firstReturn]? = some _ := rfl
  refine ex_many (pc' := 14) (ls' := [.ref 13, .int x1, .int x2]) (st' := [.int x1, .int x2]) (mem' := mem) hS hC 2 rfl ?_
  refine ex_br (P := x1 ≤ x2) (a := 40) (b := 17) (ls' := [.ref 13, .int x1, .int x2]) (st' := []) (mem' := mem) hS hC rfl (fun h => ?_) (fun h => ?_)
  · replace k := k.1 (h)
    refine ex_many (pc' := 2) (ls' := [.ref 13, .int (x1 + 1), .int x2]) (st' := []) (mem' := mem) hS hC 2 rfl ?_
    exact k
  · replace k := k.2 (h)
    refine ex_many (pc' := 22) (ls' := [.ref 13, .int x1, .int x2]) (st' := [.int x2, .ref 14]) (mem' := mem) hS hC 3 rfl ?_
    refine ex_grd (b := pm_inb x2 201) (pc' := 23) (ls' := [.ref 13, .int x1, .int x2]) (st' := [.int (mem 14 x2.toNatClampNeg)]) (mem' := mem) hS hC rfl k.1 ?_
    replace k := k.2
    refine ex_many (pc' := 28) (ls' := [.ref 13, .int x1, .int x2]) (st' := [.int x1, .ref 14, .int (mem 14 x2.toNatClampNeg)]) (mem' := mem) hS hC 3 rfl ?_
    refine ex_grd (b := pm_inb x1 201) (pc' := 29) (ls' := [.ref 13, .int x1, .int x2]) (st' := [.int (mem 14 x1.toNatClampNeg), .int (mem 14 x2.toNatClampNeg)]) (mem' := mem) hS hC rfl k.1 ?_
    replace k := k.2
    refine ex_br (P := ¬ (mem 14 x2.toNatClampNeg) = (mem 14 x1.toNatClampNeg)) (a := 34) (b := 32) (ls' := [.ref 13, .int x1, .int x2]) (st' := []) (mem' := mem) hS hC rfl (fun h => ?_) (fun h => ?_)
    · replace k := k.1 (h)
      refine ex_many (pc' := 12) (ls' := [.ref 13, .int x1, .int (x2 + 1)]) (st' := []) (mem' := mem) hS hC 2 rfl ?_
      exact k
    · replace k := k.2 (h)
      refine ex_many (pc' := 33) (ls' := [.ref 13, .int x1, .int x2]) (st' := [.int x1]) (mem' := mem) hS hC 1 rfl ?_
      exact ex_ret (v := (some (.int x1))) hS hC rfl rfl rfl k

set_option maxRecDepth 20000 in
theorem bk_X0_forget_0 {ro : pm_RO} {Q : Option Value → pm_M → Prop} {mem : pm_M} (k : Q none (pm_up mem 15 2 0)) : pm_Ex ro m_X0_forget 0 [.ref 15] [] mem Q := by
  have hS : pm_sig[m_X0_forget]? = some _ := rfl
  have hC : pm_cod[m_X0_forget]? = some _ := rfl
  refine ex_many (pc' := 5) (ls' := [.ref 15]) (st' := []) (mem' := pm_up mem 15 2 0) hS hC 3 rfl ?_
  exact ex_ret (v := none) hS hC rfl rfl rfl k

set_option maxRecDepth 20000 in
theorem bk_X0_take_0 {ro : pm_RO} {Q : Option Value → pm_M → Prop} {mem : pm_M} {a1 a2 : Int32} (k : pm_Ex ro m_X2_paidFor 0 [.ref 1, .int a1, .null, .null, .null, .null, .null, .null] [] mem (fun v m => pm_Ex ro m_X0_take 8 [.ref 15, .int a1, .int a2, .null, .null, .null] (v.toList ++ []) m Q)) : pm_Ex ro m_X0_take 0 [.ref 15, .int a1, .int a2, .null, .null, .null] [] mem Q := by
  have hS : pm_sig[m_X0_take]? = some _ := rfl
  have hC : pm_cod[m_X0_take]? = some _ := rfl
  refine ex_many (pc' := 5) (ls' := [.ref 15, .int a1, .int a2, .null, .null, .null]) (st' := [.int a1, .ref 1]) (mem' := mem) hS hC 3 rfl ?_
  refine ex_call (y' := m_X2_paidFor) (rest := []) (ent := [.ref 1, .int a1, .null, .null, .null, .null, .null, .null]) hS hC rfl rfl rfl rfl rfl rfl ?_
  exact k

set_option maxRecDepth 20000 in
theorem bk_X0_take_8 {ro : pm_RO} {Q : Option Value → pm_M → Prop} {mem : pm_M} {x1 x2 s0 : Int32} (k : (pm_inb (if ¬ s0 = x1 then (if x1 ≤ s0 then 2 else 1 : Int32) else 0 : Int32) 4 = true) ∧ ((pm_inb (if ¬ s0 = x1 then (if x1 ≤ s0 then 2 else 1 : Int32) else 0 : Int32) 4 = true) ∧ (((mem 15 3) < (if 0 ≤ (s0 - x1) then (s0 - x1) else 0 - (s0 - x1)) → Q none (pm_up (pm_up (pm_up mem 16 ((if ¬ s0 = x1 then (if x1 ≤ s0 then 2 else 1 : Int32) else 0 : Int32).toNatClampNeg) ((mem 16 ((if ¬ s0 = x1 then (if x1 ≤ s0 then 2 else 1 : Int32) else 0 : Int32).toNatClampNeg)) + x2)) 15 3 (if 0 ≤ (s0 - x1) then (s0 - x1) else 0 - (s0 - x1))) 16 3 x1)) ∧ (¬ ((mem 15 3) < (if 0 ≤ (s0 - x1) then (s0 - x1) else 0 - (s0 - x1))) → (¬ (if 0 ≤ (s0 - x1) then (s0 - x1) else 0 - (s0 - x1)) = (mem 15 3) → Q none (pm_up mem 16 ((if ¬ s0 = x1 then (if x1 ≤ s0 then 2 else 1 : Int32) else 0 : Int32).toNatClampNeg) ((mem 16 ((if ¬ s0 = x1 then (if x1 ≤ s0 then 2 else 1 : Int32) else 0 : Int32).toNatClampNeg)) + x2))) ∧ (¬ (¬ (if 0 ≤ (s0 - x1) then (s0 - x1) else 0 - (s0 - x1)) = (mem 15 3)) → (((pm_up mem 16 ((if ¬ s0 = x1 then (if x1 ≤ s0 then 2 else 1 : Int32) else 0 : Int32).toNatClampNeg) ((mem 16 ((if ¬ s0 = x1 then (if x1 ≤ s0 then 2 else 1 : Int32) else 0 : Int32).toNatClampNeg)) + x2)) 16 3) ≤ x1 → Q none (pm_up mem 16 ((if ¬ s0 = x1 then (if x1 ≤ s0 then 2 else 1 : Int32) else 0 : Int32).toNatClampNeg) ((mem 16 ((if ¬ s0 = x1 then (if x1 ≤ s0 then 2 else 1 : Int32) else 0 : Int32).toNatClampNeg)) + x2))) ∧ (¬ (((pm_up mem 16 ((if ¬ s0 = x1 then (if x1 ≤ s0 then 2 else 1 : Int32) else 0 : Int32).toNatClampNeg) ((mem 16 ((if ¬ s0 = x1 then (if x1 ≤ s0 then 2 else 1 : Int32) else 0 : Int32).toNatClampNeg)) + x2)) 16 3) ≤ x1) → Q none (pm_up (pm_up (pm_up mem 16 ((if ¬ s0 = x1 then (if x1 ≤ s0 then 2 else 1 : Int32) else 0 : Int32).toNatClampNeg) ((mem 16 ((if ¬ s0 = x1 then (if x1 ≤ s0 then 2 else 1 : Int32) else 0 : Int32).toNatClampNeg)) + x2)) 15 3 (if 0 ≤ (s0 - x1) then (s0 - x1) else 0 - (s0 - x1))) 16 3 x1))))))) : pm_Ex ro m_X0_take 8 [.ref 15, .int x1, .int x2, .null, .null, .null] [.int s0] mem Q := by
  have hS : pm_sig[m_X0_take]? = some _ := rfl
  have hC : pm_cod[m_X0_take]? = some _ := rfl
  refine ex_many (pc' := 11) (ls' := [.ref 15, .int x1, .int x2, .int s0, .null, .null]) (st' := [.int x1, .int s0]) (mem' := mem) hS hC 3 rfl ?_
  have kp13 : pm_Ex ro m_X0_take 28 [.ref 15, .int x1, .int x2, .int s0, .null, .null] [.int (if ¬ s0 = x1 then (if x1 ≤ s0 then 2 else 1 : Int32) else 0 : Int32)] mem Q := by
    refine ex_many (pc' := 37) (ls' := [.ref 15, .int x1, .int x2, .int s0, .int (if ¬ s0 = x1 then (if x1 ≤ s0 then 2 else 1 : Int32) else 0 : Int32), .null]) (st' := [.int (if ¬ s0 = x1 then (if x1 ≤ s0 then 2 else 1 : Int32) else 0 : Int32), .ref 16, .int (if ¬ s0 = x1 then (if x1 ≤ s0 then 2 else 1 : Int32) else 0 : Int32), .ref 16]) (mem' := mem) hS hC 5 rfl ?_
    refine ex_grd (b := pm_inb (if ¬ s0 = x1 then (if x1 ≤ s0 then 2 else 1 : Int32) else 0 : Int32) 4) (pc' := 38) (ls' := [.ref 15, .int x1, .int x2, .int s0, .int (if ¬ s0 = x1 then (if x1 ≤ s0 then 2 else 1 : Int32) else 0 : Int32), .null]) (st' := [.int (mem 16 ((if ¬ s0 = x1 then (if x1 ≤ s0 then 2 else 1 : Int32) else 0 : Int32).toNatClampNeg)), .int (if ¬ s0 = x1 then (if x1 ≤ s0 then 2 else 1 : Int32) else 0 : Int32), .ref 16]) (mem' := mem) hS hC rfl k.1 ?_
    replace k := k.2
    refine ex_many (pc' := 40) (ls' := [.ref 15, .int x1, .int x2, .int s0, .int (if ¬ s0 = x1 then (if x1 ≤ s0 then 2 else 1 : Int32) else 0 : Int32), .null]) (st' := [.int ((mem 16 ((if ¬ s0 = x1 then (if x1 ≤ s0 then 2 else 1 : Int32) else 0 : Int32).toNatClampNeg)) + x2), .int (if ¬ s0 = x1 then (if x1 ≤ s0 then 2 else 1 : Int32) else 0 : Int32), .ref 16]) (mem' := mem) hS hC 2 rfl ?_
    refine ex_grd (b := pm_inb (if ¬ s0 = x1 then (if x1 ≤ s0 then 2 else 1 : Int32) else 0 : Int32) 4) (pc' := 41) (ls' := [.ref 15, .int x1, .int x2, .int s0, .int (if ¬ s0 = x1 then (if x1 ≤ s0 then 2 else 1 : Int32) else 0 : Int32), .null]) (st' := []) (mem' := pm_up mem 16 ((if ¬ s0 = x1 then (if x1 ≤ s0 then 2 else 1 : Int32) else 0 : Int32).toNatClampNeg) ((mem 16 ((if ¬ s0 = x1 then (if x1 ≤ s0 then 2 else 1 : Int32) else 0 : Int32).toNatClampNeg)) + x2)) hS hC rfl k.1 ?_
    replace k := k.2
    refine ex_many (pc' := 44) (ls' := [.ref 15, .int x1, .int x2, .int s0, .int (if ¬ s0 = x1 then (if x1 ≤ s0 then 2 else 1 : Int32) else 0 : Int32), .null]) (st' := [.int (s0 - x1)]) (mem' := pm_up mem 16 ((if ¬ s0 = x1 then (if x1 ≤ s0 then 2 else 1 : Int32) else 0 : Int32).toNatClampNeg) ((mem 16 ((if ¬ s0 = x1 then (if x1 ≤ s0 then 2 else 1 : Int32) else 0 : Int32).toNatClampNeg)) + x2)) hS hC 3 rfl ?_
    refine ex_spc (pc' := 47) (ls' := [.ref 15, .int x1, .int x2, .int s0, .int (if ¬ s0 = x1 then (if x1 ≤ s0 then 2 else 1 : Int32) else 0 : Int32), .null]) (st' := [.int (if 0 ≤ (s0 - x1) then (s0 - x1) else 0 - (s0 - x1))]) (mem' := pm_up mem 16 ((if ¬ s0 = x1 then (if x1 ≤ s0 then 2 else 1 : Int32) else 0 : Int32).toNatClampNeg) ((mem 16 ((if ¬ s0 = x1 then (if x1 ≤ s0 then 2 else 1 : Int32) else 0 : Int32).toNatClampNeg)) + x2)) hS hC rfl rfl rfl rfl rfl ?_
    refine ex_many (pc' := 55) (ls' := [.ref 15, .int x1, .int x2, .int s0, .int (if ¬ s0 = x1 then (if x1 ≤ s0 then 2 else 1 : Int32) else 0 : Int32), .int (if 0 ≤ (s0 - x1) then (s0 - x1) else 0 - (s0 - x1))]) (st' := [.int (mem 15 3), .int (if 0 ≤ (s0 - x1) then (s0 - x1) else 0 - (s0 - x1))]) (mem' := pm_up mem 16 ((if ¬ s0 = x1 then (if x1 ≤ s0 then 2 else 1 : Int32) else 0 : Int32).toNatClampNeg) ((mem 16 ((if ¬ s0 = x1 then (if x1 ≤ s0 then 2 else 1 : Int32) else 0 : Int32).toNatClampNeg)) + x2)) hS hC 4 rfl ?_
    refine ex_br (P := (mem 15 3) < (if 0 ≤ (s0 - x1) then (s0 - x1) else 0 - (s0 - x1))) (a := 77) (b := 58) (ls' := [.ref 15, .int x1, .int x2, .int s0, .int (if ¬ s0 = x1 then (if x1 ≤ s0 then 2 else 1 : Int32) else 0 : Int32), .int (if 0 ≤ (s0 - x1) then (s0 - x1) else 0 - (s0 - x1))]) (st' := []) (mem' := pm_up mem 16 ((if ¬ s0 = x1 then (if x1 ≤ s0 then 2 else 1 : Int32) else 0 : Int32).toNatClampNeg) ((mem 16 ((if ¬ s0 = x1 then (if x1 ≤ s0 then 2 else 1 : Int32) else 0 : Int32).toNatClampNeg)) + x2)) hS hC rfl (fun h => ?_) (fun h => ?_)
    · replace k := k.1 (h)
      refine ex_many (pc' := 90) (ls' := [.ref 15, .int x1, .int x2, .int s0, .int (if ¬ s0 = x1 then (if x1 ≤ s0 then 2 else 1 : Int32) else 0 : Int32), .int (if 0 ≤ (s0 - x1) then (s0 - x1) else 0 - (s0 - x1))]) (st' := []) (mem' := pm_up (pm_up (pm_up mem 16 ((if ¬ s0 = x1 then (if x1 ≤ s0 then 2 else 1 : Int32) else 0 : Int32).toNatClampNeg) ((mem 16 ((if ¬ s0 = x1 then (if x1 ≤ s0 then 2 else 1 : Int32) else 0 : Int32).toNatClampNeg)) + x2)) 15 3 (if 0 ≤ (s0 - x1) then (s0 - x1) else 0 - (s0 - x1))) 16 3 x1) hS hC 8 rfl ?_
      exact ex_ret (v := none) hS hC rfl rfl rfl k
    · replace k := k.2 (h)
      refine ex_many (pc' := 64) (ls' := [.ref 15, .int x1, .int x2, .int s0, .int (if ¬ s0 = x1 then (if x1 ≤ s0 then 2 else 1 : Int32) else 0 : Int32), .int (if 0 ≤ (s0 - x1) then (s0 - x1) else 0 - (s0 - x1))]) (st' := [.int (mem 15 3), .int (if 0 ≤ (s0 - x1) then (s0 - x1) else 0 - (s0 - x1))]) (mem' := pm_up mem 16 ((if ¬ s0 = x1 then (if x1 ≤ s0 then 2 else 1 : Int32) else 0 : Int32).toNatClampNeg) ((mem 16 ((if ¬ s0 = x1 then (if x1 ≤ s0 then 2 else 1 : Int32) else 0 : Int32).toNatClampNeg)) + x2)) hS hC 3 rfl ?_
      refine ex_br (P := ¬ (if 0 ≤ (s0 - x1) then (s0 - x1) else 0 - (s0 - x1)) = (mem 15 3)) (a := 90) (b := 67) (ls' := [.ref 15, .int x1, .int x2, .int s0, .int (if ¬ s0 = x1 then (if x1 ≤ s0 then 2 else 1 : Int32) else 0 : Int32), .int (if 0 ≤ (s0 - x1) then (s0 - x1) else 0 - (s0 - x1))]) (st' := []) (mem' := pm_up mem 16 ((if ¬ s0 = x1 then (if x1 ≤ s0 then 2 else 1 : Int32) else 0 : Int32).toNatClampNeg) ((mem 16 ((if ¬ s0 = x1 then (if x1 ≤ s0 then 2 else 1 : Int32) else 0 : Int32).toNatClampNeg)) + x2)) hS hC rfl (fun h => ?_) (fun h => ?_)
      · replace k := k.1 (h)
        exact ex_ret (v := none) hS hC rfl rfl rfl k
      · replace k := k.2 (h)
        refine ex_many (pc' := 74) (ls' := [.ref 15, .int x1, .int x2, .int s0, .int (if ¬ s0 = x1 then (if x1 ≤ s0 then 2 else 1 : Int32) else 0 : Int32), .int (if 0 ≤ (s0 - x1) then (s0 - x1) else 0 - (s0 - x1))]) (st' := [.int ((pm_up mem 16 ((if ¬ s0 = x1 then (if x1 ≤ s0 then 2 else 1 : Int32) else 0 : Int32).toNatClampNeg) ((mem 16 ((if ¬ s0 = x1 then (if x1 ≤ s0 then 2 else 1 : Int32) else 0 : Int32).toNatClampNeg)) + x2)) 16 3), .int x1]) (mem' := pm_up mem 16 ((if ¬ s0 = x1 then (if x1 ≤ s0 then 2 else 1 : Int32) else 0 : Int32).toNatClampNeg) ((mem 16 ((if ¬ s0 = x1 then (if x1 ≤ s0 then 2 else 1 : Int32) else 0 : Int32).toNatClampNeg)) + x2)) hS hC 5 rfl ?_
        refine ex_br (P := ((pm_up mem 16 ((if ¬ s0 = x1 then (if x1 ≤ s0 then 2 else 1 : Int32) else 0 : Int32).toNatClampNeg) ((mem 16 ((if ¬ s0 = x1 then (if x1 ≤ s0 then 2 else 1 : Int32) else 0 : Int32).toNatClampNeg)) + x2)) 16 3) ≤ x1) (a := 90) (b := 77) (ls' := [.ref 15, .int x1, .int x2, .int s0, .int (if ¬ s0 = x1 then (if x1 ≤ s0 then 2 else 1 : Int32) else 0 : Int32), .int (if 0 ≤ (s0 - x1) then (s0 - x1) else 0 - (s0 - x1))]) (st' := []) (mem' := pm_up mem 16 ((if ¬ s0 = x1 then (if x1 ≤ s0 then 2 else 1 : Int32) else 0 : Int32).toNatClampNeg) ((mem 16 ((if ¬ s0 = x1 then (if x1 ≤ s0 then 2 else 1 : Int32) else 0 : Int32).toNatClampNeg)) + x2)) hS hC rfl (fun h => ?_) (fun h => ?_)
        · replace k := k.1 (h)
          exact ex_ret (v := none) hS hC rfl rfl rfl k
        · replace k := k.2 (h)
          refine ex_many (pc' := 90) (ls' := [.ref 15, .int x1, .int x2, .int s0, .int (if ¬ s0 = x1 then (if x1 ≤ s0 then 2 else 1 : Int32) else 0 : Int32), .int (if 0 ≤ (s0 - x1) then (s0 - x1) else 0 - (s0 - x1))]) (st' := []) (mem' := pm_up (pm_up (pm_up mem 16 ((if ¬ s0 = x1 then (if x1 ≤ s0 then 2 else 1 : Int32) else 0 : Int32).toNatClampNeg) ((mem 16 ((if ¬ s0 = x1 then (if x1 ≤ s0 then 2 else 1 : Int32) else 0 : Int32).toNatClampNeg)) + x2)) 15 3 (if 0 ≤ (s0 - x1) then (s0 - x1) else 0 - (s0 - x1))) 16 3 x1) hS hC 8 rfl ?_
          exact ex_ret (v := none) hS hC rfl rfl rfl k
  refine ex_br (P := ¬ s0 = x1) (a := 18) (b := 14) (ls' := [.ref 15, .int x1, .int x2, .int s0, .null, .null]) (st' := []) (mem' := mem) hS hC rfl (fun h => ?_) (fun h => ?_)
  · have kp13a : pm_Ex ro m_X0_take 28 [.ref 15, .int x1, .int x2, .int s0, .null, .null] [.int (if x1 ≤ s0 then 2 else 1 : Int32)] mem Q := pm_phi1 (f := fun z0 => pm_Ex ro m_X0_take 28 [.ref 15, .int x1, .int x2, .int s0, .null, .null] [.int z0] mem Q) (if_pos (h)) kp13
    have kp12 : pm_Ex ro m_X0_take 28 [.ref 15, .int x1, .int x2, .int s0, .null, .null] [.int (if x1 ≤ s0 then 2 else 1 : Int32)] mem Q := by
      exact kp13a
    refine ex_many (pc' := 20) (ls' := [.ref 15, .int x1, .int x2, .int s0, .null, .null]) (st' := [.int x1, .int s0]) (mem' := mem) hS hC 2 rfl ?_
    refine ex_br (P := x1 ≤ s0) (a := 27) (b := 23) (ls' := [.ref 15, .int x1, .int x2, .int s0, .null, .null]) (st' := []) (mem' := mem) hS hC rfl (fun h => ?_) (fun h => ?_)
    · have kp12a : pm_Ex ro m_X0_take 28 [.ref 15, .int x1, .int x2, .int s0, .null, .null] [.int 2] mem Q := pm_phi1 (f := fun z0 => pm_Ex ro m_X0_take 28 [.ref 15, .int x1, .int x2, .int s0, .null, .null] [.int z0] mem Q) (if_pos (h)) kp12
      refine ex_many (pc' := 28) (ls' := [.ref 15, .int x1, .int x2, .int s0, .null, .null]) (st' := [.int 2]) (mem' := mem) hS hC 1 rfl ?_
      exact kp12a
    · have kp12b : pm_Ex ro m_X0_take 28 [.ref 15, .int x1, .int x2, .int s0, .null, .null] [.int 1] mem Q := pm_phi1 (f := fun z0 => pm_Ex ro m_X0_take 28 [.ref 15, .int x1, .int x2, .int s0, .null, .null] [.int z0] mem Q) (if_neg (h)) kp12
      refine ex_many (pc' := 28) (ls' := [.ref 15, .int x1, .int x2, .int s0, .null, .null]) (st' := [.int 1]) (mem' := mem) hS hC 2 rfl ?_
      exact kp12b
  · have kp13b : pm_Ex ro m_X0_take 28 [.ref 15, .int x1, .int x2, .int s0, .null, .null] [.int 0] mem Q := pm_phi1 (f := fun z0 => pm_Ex ro m_X0_take 28 [.ref 15, .int x1, .int x2, .int s0, .null, .null] [.int z0] mem Q) (if_neg (h)) kp13
    refine ex_many (pc' := 28) (ls' := [.ref 15, .int x1, .int x2, .int s0, .null, .null]) (st' := [.int 0]) (mem' := mem) hS hC 2 rfl ?_
    exact kp13b

set_option maxRecDepth 20000 in
theorem bk_X0_countAll_0 {ro : pm_RO} {Q : Option Value → pm_M → Prop} {mem : pm_M} {a1 : Int32} (k : (pm_inb (0 : Int32) 4 = true) ∧ ((¬ a1 = 1 → pm_Ex ro m_X0_countAll 53 [.ref 15, .int a1, .int (mem 2 ((0 : Int32).toNatClampNeg)), .int (if ¬ a1 = 3 then 1 else mem 2 ((0 : Int32).toNatClampNeg) : Int32), .int ((if ¬ a1 = 3 then 1 else mem 2 ((0 : Int32).toNatClampNeg) : Int32) * (mem 2 ((0 : Int32).toNatClampNeg))), .int 1, .null] [] mem Q) ∧ (¬ (¬ a1 = 1) → pm_Ex ro m_X0_countAll 16 [.ref 15, .int a1, .int (mem 2 ((0 : Int32).toNatClampNeg)), .int 1, .null, .null, .null] [] mem Q))) : pm_Ex ro m_X0_countAll 0 [.ref 15, .int a1, .null, .null, .null, .null, .null] [] mem Q := by
  have hS : pm_sig[m_X0_countAll]? = some _ := rfl
  have hC : pm_cod[m_X0_countAll]? = some _ := rfl
  refine ex_many (pc' := 5) (ls' := [.ref 15, .int a1, .null, .null, .null, .null, .null]) (st' := [.int 0, .ref 1]) (mem' := mem) hS hC 3 rfl ?_
  refine ex_call (y' := m_X2_valueOf) (rest := []) (ent := [.ref 1, .int 0]) hS hC rfl rfl rfl rfl rfl rfl ?_
  refine bk_X2_valueOf_0 ⟨k.1, ?_⟩
  replace k := k.2
  show pm_Ex ro m_X0_countAll 8 [.ref 15, .int a1, .null, .null, .null, .null, .null] [.int (mem 2 ((0 : Int32).toNatClampNeg))] mem Q
  refine ex_many (pc' := 11) (ls' := [.ref 15, .int a1, .int (mem 2 ((0 : Int32).toNatClampNeg)), .null, .null, .null, .null]) (st' := [.int 1, .int a1]) (mem' := mem) hS hC 3 rfl ?_
  refine ex_br (P := ¬ a1 = 1) (a := 34) (b := 14) (ls' := [.ref 15, .int a1, .int (mem 2 ((0 : Int32).toNatClampNeg)), .null, .null, .null, .null]) (st' := []) (mem' := mem) hS hC rfl (fun h => ?_) (fun h => ?_)
  · replace k := k.1 (h)
    refine ex_many (pc' := 36) (ls' := [.ref 15, .int a1, .int (mem 2 ((0 : Int32).toNatClampNeg)), .null, .null, .null, .null]) (st' := [.int 3, .int a1]) (mem' := mem) hS hC 2 rfl ?_
    have kp14 : pm_Ex ro m_X0_countAll 44 [.ref 15, .int a1, .int (mem 2 ((0 : Int32).toNatClampNeg)), .null, .null, .null, .null] [.int (if ¬ a1 = 3 then 1 else mem 2 ((0 : Int32).toNatClampNeg) : Int32)] mem Q := by
      refine ex_many (pc' := 53) (ls' := [.ref 15, .int a1, .int (mem 2 ((0 : Int32).toNatClampNeg)), .int (if ¬ a1 = 3 then 1 else mem 2 ((0 : Int32).toNatClampNeg) : Int32), .int ((if ¬ a1 = 3 then 1 else mem 2 ((0 : Int32).toNatClampNeg) : Int32) * (mem 2 ((0 : Int32).toNatClampNeg))), .int 1, .null]) (st' := []) (mem' := mem) hS hC 7 rfl ?_
      exact k
    refine ex_br (P := ¬ a1 = 3) (a := 43) (b := 39) (ls' := [.ref 15, .int a1, .int (mem 2 ((0 : Int32).toNatClampNeg)), .null, .null, .null, .null]) (st' := []) (mem' := mem) hS hC rfl (fun h => ?_) (fun h => ?_)
    · have kp14a : pm_Ex ro m_X0_countAll 44 [.ref 15, .int a1, .int (mem 2 ((0 : Int32).toNatClampNeg)), .null, .null, .null, .null] [.int 1] mem Q := pm_phi1 (f := fun z0 => pm_Ex ro m_X0_countAll 44 [.ref 15, .int a1, .int (mem 2 ((0 : Int32).toNatClampNeg)), .null, .null, .null, .null] [.int z0] mem Q) (if_pos (h)) kp14
      refine ex_many (pc' := 44) (ls' := [.ref 15, .int a1, .int (mem 2 ((0 : Int32).toNatClampNeg)), .null, .null, .null, .null]) (st' := [.int 1]) (mem' := mem) hS hC 1 rfl ?_
      exact kp14a
    · have kp14b : pm_Ex ro m_X0_countAll 44 [.ref 15, .int a1, .int (mem 2 ((0 : Int32).toNatClampNeg)), .null, .null, .null, .null] [.int (mem 2 ((0 : Int32).toNatClampNeg))] mem Q := pm_phi1 (f := fun z0 => pm_Ex ro m_X0_countAll 44 [.ref 15, .int a1, .int (mem 2 ((0 : Int32).toNatClampNeg)), .null, .null, .null, .null] [.int z0] mem Q) (if_neg (h)) kp14
      refine ex_many (pc' := 44) (ls' := [.ref 15, .int a1, .int (mem 2 ((0 : Int32).toNatClampNeg)), .null, .null, .null, .null]) (st' := [.int (mem 2 ((0 : Int32).toNatClampNeg))]) (mem' := mem) hS hC 2 rfl ?_
      exact kp14b
  · replace k := k.2 (h)
    refine ex_many (pc' := 16) (ls' := [.ref 15, .int a1, .int (mem 2 ((0 : Int32).toNatClampNeg)), .int 1, .null, .null, .null]) (st' := []) (mem' := mem) hS hC 2 rfl ?_
    exact k

set_option maxRecDepth 20000 in
theorem bk_X0_countAll_16 {ro : pm_RO} {Q : Option Value → pm_M → Prop} {mem : pm_M} {x1 x2 x3 : Int32} (k : (x2 ≤ x3 → Q none mem) ∧ (¬ (x2 ≤ x3) → pm_Ex ro m_X0_take 0 [.ref 15, .int x3, .int 1, .null, .null, .null] [] mem (fun v m => pm_Ex ro m_X0_countAll 27 [.ref 15, .int x1, .int x2, .int x3, .null, .null, .null] (v.toList ++ []) m Q))) : pm_Ex ro m_X0_countAll 16 [.ref 15, .int x1, .int x2, .int x3, .null, .null, .null] [] mem Q := by
  have hS : pm_sig[m_X0_countAll]? = some _ := rfl
  have hC : pm_cod[m_X0_countAll]? = some _ := rfl
  refine ex_many (pc' := 18) (ls' := [.ref 15, .int x1, .int x2, .int x3, .null, .null, .null]) (st' := [.int x2, .int x3]) (mem' := mem) hS hC 2 rfl ?_
  refine ex_br (P := x2 ≤ x3) (a := 33) (b := 21) (ls' := [.ref 15, .int x1, .int x2, .int x3, .null, .null, .null]) (st' := []) (mem' := mem) hS hC rfl (fun h => ?_) (fun h => ?_)
  · replace k := k.1 (h)
    exact ex_ret (v := none) hS hC rfl rfl rfl k
  · replace k := k.2 (h)
    refine ex_many (pc' := 24) (ls' := [.ref 15, .int x1, .int x2, .int x3, .null, .null, .null]) (st' := [.int 1, .int x3, .ref 15]) (mem' := mem) hS hC 3 rfl ?_
    refine ex_call (y' := m_X0_take) (rest := []) (ent := [.ref 15, .int x3, .int 1, .null, .null, .null]) hS hC rfl rfl rfl rfl rfl rfl ?_
    exact k

set_option maxRecDepth 20000 in
theorem bk_X0_countAll_53 {ro : pm_RO} {Q : Option Value → pm_M → Prop} {mem : pm_M} {x1 x2 x3 x4 x5 : Int32} {d6 : Value} (k : (x2 ≤ x5 → Q none mem) ∧ (¬ (x2 ≤ x5) → pm_Ex ro m_X0_countAll 62 [.ref 15, .int x1, .int x2, .int x3, .int x4, .int x5, .int 0] [] mem Q)) : pm_Ex ro m_X0_countAll 53 [.ref 15, .int x1, .int x2, .int x3, .int x4, .int x5, d6] [] mem Q := by
  have hS : pm_sig[m_X0_countAll]? = some _ := rfl
  have hC : pm_cod[m_X0_countAll]? = some _ := rfl
  refine ex_many (pc' := 56) (ls' := [.ref 15, .int x1, .int x2, .int x3, .int x4, .int x5, d6]) (st' := [.int x2, .int x5]) (mem' := mem) hS hC 2 rfl ?_
  refine ex_br (P := x2 ≤ x5) (a := 123) (b := 59) (ls' := [.ref 15, .int x1, .int x2, .int x3, .int x4, .int x5, d6]) (st' := []) (mem' := mem) hS hC rfl (fun h => ?_) (fun h => ?_)
  · replace k := k.1 (h)
    exact ex_ret (v := none) hS hC rfl rfl rfl k
  · replace k := k.2 (h)
    refine ex_many (pc' := 62) (ls' := [.ref 15, .int x1, .int x2, .int x3, .int x4, .int x5, .int 0]) (st' := []) (mem' := mem) hS hC 2 rfl ?_
    exact k

set_option maxRecDepth 20000 in
theorem bk_X0_countAll_62 {ro : pm_RO} {Q : Option Value → pm_M → Prop} {mem : pm_M} {x1 x2 x3 x4 x5 x6 : Int32} (k : (x3 ≤ x6 → pm_Ex ro m_X0_countAll 92 [.ref 15, .int x1, .int x2, .int x3, .int x4, .int x5, .int 1] [] mem Q) ∧ (¬ (x3 ≤ x6) → pm_Ex ro m_X0_take 0 [.ref 15, .int ((x5 * x4) + (x6 * x2)), .int 1, .null, .null, .null] [] mem (fun v m => pm_Ex ro m_X0_countAll 83 [.ref 15, .int x1, .int x2, .int x3, .int x4, .int x5, .int x6] (v.toList ++ []) m Q))) : pm_Ex ro m_X0_countAll 62 [.ref 15, .int x1, .int x2, .int x3, .int x4, .int x5, .int x6] [] mem Q := by
  have hS : pm_sig[m_X0_countAll]? = some _ := rfl
  have hC : pm_cod[m_X0_countAll]? = some _ := rfl
  refine ex_many (pc' := 65) (ls' := [.ref 15, .int x1, .int x2, .int x3, .int x4, .int x5, .int x6]) (st' := [.int x3, .int x6]) (mem' := mem) hS hC 2 rfl ?_
  refine ex_br (P := x3 ≤ x6) (a := 89) (b := 68) (ls' := [.ref 15, .int x1, .int x2, .int x3, .int x4, .int x5, .int x6]) (st' := []) (mem' := mem) hS hC rfl (fun h => ?_) (fun h => ?_)
  · replace k := k.1 (h)
    refine ex_many (pc' := 92) (ls' := [.ref 15, .int x1, .int x2, .int x3, .int x4, .int x5, .int 1]) (st' := []) (mem' := mem) hS hC 2 rfl ?_
    exact k
  · replace k := k.2 (h)
    refine ex_many (pc' := 80) (ls' := [.ref 15, .int x1, .int x2, .int x3, .int x4, .int x5, .int x6]) (st' := [.int 1, .int ((x5 * x4) + (x6 * x2)), .ref 15]) (mem' := mem) hS hC 9 rfl ?_
    refine ex_call (y' := m_X0_take) (rest := []) (ent := [.ref 15, .int ((x5 * x4) + (x6 * x2)), .int 1, .null, .null, .null]) hS hC rfl rfl rfl rfl rfl rfl ?_
    exact k

set_option maxRecDepth 20000 in
theorem bk_X0_countAll_92 {ro : pm_RO} {Q : Option Value → pm_M → Prop} {mem : pm_M} {x1 x2 x3 x4 x5 x6 : Int32} (k : (x2 ≤ x6 → pm_Ex ro m_X0_countAll 53 [.ref 15, .int x1, .int x2, .int x3, .int x4, .int (x5 + 1), .int x6] [] mem Q) ∧ (¬ (x2 ≤ x6) → pm_Ex ro m_X0_take 0 [.ref 15, .int ((x5 * x4) + x6), .int x3, .null, .null, .null] [] mem (fun v m => pm_Ex ro m_X0_countAll 111 [.ref 15, .int x1, .int x2, .int x3, .int x4, .int x5, .int x6] (v.toList ++ []) m Q))) : pm_Ex ro m_X0_countAll 92 [.ref 15, .int x1, .int x2, .int x3, .int x4, .int x5, .int x6] [] mem Q := by
  have hS : pm_sig[m_X0_countAll]? = some _ := rfl
  have hC : pm_cod[m_X0_countAll]? = some _ := rfl
  refine ex_many (pc' := 95) (ls' := [.ref 15, .int x1, .int x2, .int x3, .int x4, .int x5, .int x6]) (st' := [.int x2, .int x6]) (mem' := mem) hS hC 2 rfl ?_
  refine ex_br (P := x2 ≤ x6) (a := 117) (b := 98) (ls' := [.ref 15, .int x1, .int x2, .int x3, .int x4, .int x5, .int x6]) (st' := []) (mem' := mem) hS hC rfl (fun h => ?_) (fun h => ?_)
  · replace k := k.1 (h)
    refine ex_many (pc' := 53) (ls' := [.ref 15, .int x1, .int x2, .int x3, .int x4, .int (x5 + 1), .int x6]) (st' := []) (mem' := mem) hS hC 2 rfl ?_
    exact k
  · replace k := k.2 (h)
    refine ex_many (pc' := 108) (ls' := [.ref 15, .int x1, .int x2, .int x3, .int x4, .int x5, .int x6]) (st' := [.int x3, .int ((x5 * x4) + x6), .ref 15]) (mem' := mem) hS hC 7 rfl ?_
    refine ex_call (y' := m_X0_take) (rest := []) (ent := [.ref 15, .int ((x5 * x4) + x6), .int x3, .null, .null, .null]) hS hC rfl rfl rfl rfl rfl rfl ?_
    exact k

set_option maxRecDepth 20000 in
theorem bk_X0_countAll_27 {ro : pm_RO} {Q : Option Value → pm_M → Prop} {mem : pm_M} {x1 x2 x3 : Int32} (k : pm_Ex ro m_X0_countAll 16 [.ref 15, .int x1, .int x2, .int (x3 + 1), .null, .null, .null] [] mem Q) : pm_Ex ro m_X0_countAll 27 [.ref 15, .int x1, .int x2, .int x3, .null, .null, .null] [] mem Q := by
  have hS : pm_sig[m_X0_countAll]? = some _ := rfl
  have hC : pm_cod[m_X0_countAll]? = some _ := rfl
  refine ex_many (pc' := 16) (ls' := [.ref 15, .int x1, .int x2, .int (x3 + 1), .null, .null, .null]) (st' := []) (mem' := mem) hS hC 2 rfl ?_
  exact k

set_option maxRecDepth 20000 in
theorem bk_X0_countAll_83 {ro : pm_RO} {Q : Option Value → pm_M → Prop} {mem : pm_M} {x1 x2 x3 x4 x5 x6 : Int32} (k : pm_Ex ro m_X0_countAll 62 [.ref 15, .int x1, .int x2, .int x3, .int x4, .int x5, .int (x6 + 1)] [] mem Q) : pm_Ex ro m_X0_countAll 83 [.ref 15, .int x1, .int x2, .int x3, .int x4, .int x5, .int x6] [] mem Q := by
  have hS : pm_sig[m_X0_countAll]? = some _ := rfl
  have hC : pm_cod[m_X0_countAll]? = some _ := rfl
  refine ex_many (pc' := 62) (ls' := [.ref 15, .int x1, .int x2, .int x3, .int x4, .int x5, .int (x6 + 1)]) (st' := []) (mem' := mem) hS hC 2 rfl ?_
  exact k

set_option maxRecDepth 20000 in
theorem bk_X0_countAll_111 {ro : pm_RO} {Q : Option Value → pm_M → Prop} {mem : pm_M} {x1 x2 x3 x4 x5 x6 : Int32} (k : pm_Ex ro m_X0_countAll 92 [.ref 15, .int x1, .int x2, .int x3, .int x4, .int x5, .int (x6 + 1)] [] mem Q) : pm_Ex ro m_X0_countAll 111 [.ref 15, .int x1, .int x2, .int x3, .int x4, .int x5, .int x6] [] mem Q := by
  have hS : pm_sig[m_X0_countAll]? = some _ := rfl
  have hC : pm_cod[m_X0_countAll]? = some _ := rfl
  refine ex_many (pc' := 92) (ls' := [.ref 15, .int x1, .int x2, .int x3, .int x4, .int x5, .int (x6 + 1)]) (st' := []) (mem' := mem) hS hC 2 rfl ?_
  exact k

set_option maxRecDepth 20000 in
theorem bk_X0_answer_0 {ro : pm_RO} {Q : Option Value → pm_M → Prop} {mem : pm_M} {a1 a2 : Int32} (k : ((mem 15 2) = a1 → (pm_inb a2 4 = true) ∧ (Q (some (.int (mem 16 a2.toNatClampNeg))) mem)) ∧ (¬ ((mem 15 2) = a1) → pm_Ex ro m_J7_fill_53178 0 [.ref 16, .int 0, .null, .null] [] (pm_up mem 15 3 (-1)) (fun v m => pm_Ex ro m_X0_answer 21 [.ref 15, .int a1, .int a2] (v.toList ++ []) m Q))) : pm_Ex ro m_X0_answer 0 [.ref 15, .int a1, .int a2] [] mem Q := by
  have hS : pm_sig[m_X0_answer]? = some _ := rfl
  have hC : pm_cod[m_X0_answer]? = some _ := rfl
  refine ex_many (pc' := 5) (ls' := [.ref 15, .int a1, .int a2]) (st' := [.int a1, .int (mem 15 2)]) (mem' := mem) hS hC 3 rfl ?_
  refine ex_br (P := (mem 15 2) = a1) (a := 31) (b := 8) (ls' := [.ref 15, .int a1, .int a2]) (st' := []) (mem' := mem) hS hC rfl (fun h => ?_) (fun h => ?_)
  · replace k := k.1 (h)
    refine ex_many (pc' := 36) (ls' := [.ref 15, .int a1, .int a2]) (st' := [.int a2, .ref 16]) (mem' := mem) hS hC 3 rfl ?_
    refine ex_grd (b := pm_inb a2 4) (pc' := 37) (ls' := [.ref 15, .int a1, .int a2]) (st' := [.int (mem 16 a2.toNatClampNeg)]) (mem' := mem) hS hC rfl k.1 ?_
    replace k := k.2
    exact ex_ret (v := (some (.int (mem 16 a2.toNatClampNeg)))) hS hC rfl rfl rfl k
  · replace k := k.2 (h)
    refine ex_many (pc' := 18) (ls' := [.ref 15, .int a1, .int a2]) (st' := [.int 0, .ref 16]) (mem' := pm_up mem 15 3 (-1)) hS hC 6 rfl ?_
    refine ex_call (y' := m_J7_fill_53178) (rest := []) (ent := [.ref 16, .int 0, .null, .null]) hS hC rfl rfl rfl rfl rfl rfl ?_
    exact k

set_option maxRecDepth 20000 in
theorem bk_X0_answer_21 {ro : pm_RO} {Q : Option Value → pm_M → Prop} {mem : pm_M} {x1 x2 : Int32} (k : pm_Ex ro m_X0_countAll 0 [.ref 15, .int x1, .null, .null, .null, .null, .null] [] mem (fun v m => pm_Ex ro m_X0_answer 26 [.ref 15, .int x1, .int x2] (v.toList ++ []) m Q)) : pm_Ex ro m_X0_answer 21 [.ref 15, .int x1, .int x2] [] mem Q := by
  have hS : pm_sig[m_X0_answer]? = some _ := rfl
  have hC : pm_cod[m_X0_answer]? = some _ := rfl
  refine ex_many (pc' := 23) (ls' := [.ref 15, .int x1, .int x2]) (st' := [.int x1, .ref 15]) (mem' := mem) hS hC 2 rfl ?_
  refine ex_call (y' := m_X0_countAll) (rest := []) (ent := [.ref 15, .int x1, .null, .null, .null, .null, .null]) hS hC rfl rfl rfl rfl rfl rfl ?_
  exact k

set_option maxRecDepth 20000 in
theorem bk_X0_answer_26 {ro : pm_RO} {Q : Option Value → pm_M → Prop} {mem : pm_M} {x1 x2 : Int32} (k : (pm_inb x2 4 = true) ∧ (Q (some (.int (mem 16 x2.toNatClampNeg))) (pm_up mem 15 2 x1))) : pm_Ex ro m_X0_answer 26 [.ref 15, .int x1, .int x2] [] mem Q := by
  have hS : pm_sig[m_X0_answer]? = some _ := rfl
  have hC : pm_cod[m_X0_answer]? = some _ := rfl
  refine ex_many (pc' := 36) (ls' := [.ref 15, .int x1, .int x2]) (st' := [.int x2, .ref 16]) (mem' := pm_up mem 15 2 x1) hS hC 6 rfl ?_
  refine ex_grd (b := pm_inb x2 4) (pc' := 37) (ls' := [.ref 15, .int x1, .int x2]) (st' := [.int (mem 16 x2.toNatClampNeg)]) (mem' := pm_up mem 15 2 x1) hS hC rfl k.1 ?_
  replace k := k.2
  exact ex_ret (v := (some (.int (mem 16 x2.toNatClampNeg)))) hS hC rfl rfl rfl k

set_option maxRecDepth 20000 in
theorem bk_X3_bestOfTwo_0 {ro : pm_RO} {Q : Option Value → pm_M → Prop} {mem : pm_M} {a1 a2 : Int32} (k : (pm_inb a1 121 = true) ∧ (pm_Ex ro m_X3_bestOfTwo 10 [.ref 17, .int a1, .int a2, .int (mem 19 a1.toNatClampNeg), .int 1, .null] [] mem Q)) : pm_Ex ro m_X3_bestOfTwo 0 [.ref 17, .int a1, .int a2, .null, .null, .null] [] mem Q := by
  have hS : pm_sig[m_X3_bestOfTwo]? = some _ := rfl
  have hC : pm_cod[m_X3_bestOfTwo]? = some _ := rfl
  refine ex_many (pc' := 5) (ls' := [.ref 17, .int a1, .int a2, .null, .null, .null]) (st' := [.int a1, .ref 19]) (mem' := mem) hS hC 3 rfl ?_
  refine ex_grd (b := pm_inb a1 121) (pc' := 6) (ls' := [.ref 17, .int a1, .int a2, .null, .null, .null]) (st' := [.int (mem 19 a1.toNatClampNeg)]) (mem' := mem) hS hC rfl k.1 ?_
  replace k := k.2
  refine ex_many (pc' := 10) (ls' := [.ref 17, .int a1, .int a2, .int (mem 19 a1.toNatClampNeg), .int 1, .null]) (st' := []) (mem' := mem) hS hC 3 rfl ?_
  exact k

set_option maxRecDepth 20000 in
theorem bk_X3_bestOfTwo_10 {ro : pm_RO} {Q : Option Value → pm_M → Prop} {mem : pm_M} {x1 x2 x3 x4 : Int32} {d5 : Value} (k : (x1 < x4 → Q (some (.int x3)) mem) ∧ (¬ (x1 < x4) → (pm_inb x4 121 = true) ∧ ((pm_inb (x1 - x4) 121 = true) ∧ (pm_Ex ro m_X3_bestOfTwo 10 [.ref 17, .int x1, .int x2, .int (if x2 = 0 then (if x3 ≤ ((mem 18 x4.toNatClampNeg) + (mem 19 ((x1 - x4).toNatClampNeg))) then x3 else (mem 18 x4.toNatClampNeg) + (mem 19 ((x1 - x4).toNatClampNeg)) : Int32) else (if ((mem 18 x4.toNatClampNeg) + (mem 19 ((x1 - x4).toNatClampNeg))) ≤ x3 then x3 else (mem 18 x4.toNatClampNeg) + (mem 19 ((x1 - x4).toNatClampNeg)) : Int32) : Int32), .int (x4 + 1), .int ((mem 18 x4.toNatClampNeg) + (mem 19 ((x1 - x4).toNatClampNeg)))] [] mem Q)))) : pm_Ex ro m_X3_bestOfTwo 10 [.ref 17, .int x1, .int x2, .int x3, .int x4, d5] [] mem Q := by
  have hS : pm_sig[m_X3_bestOfTwo]? = some _ := rfl
  have hC : pm_cod[m_X3_bestOfTwo]? = some _ := rfl
  refine ex_many (pc' := 13) (ls' := [.ref 17, .int x1, .int x2, .int x3, .int x4, d5]) (st' := [.int x1, .int x4]) (mem' := mem) hS hC 2 rfl ?_
  refine ex_br (P := x1 < x4) (a := 63) (b := 16) (ls' := [.ref 17, .int x1, .int x2, .int x3, .int x4, d5]) (st' := []) (mem' := mem) hS hC rfl (fun h => ?_) (fun h => ?_)
  · replace k := k.1 (h)
    refine ex_many (pc' := 64) (ls' := [.ref 17, .int x1, .int x2, .int x3, .int x4, d5]) (st' := [.int x3]) (mem' := mem) hS hC 1 rfl ?_
    exact ex_ret (v := (some (.int x3))) hS hC rfl rfl rfl k
  · replace k := k.2 (h)
    refine ex_many (pc' := 22) (ls' := [.ref 17, .int x1, .int x2, .int x3, .int x4, d5]) (st' := [.int x4, .ref 18]) (mem' := mem) hS hC 3 rfl ?_
    refine ex_grd (b := pm_inb x4 121) (pc' := 23) (ls' := [.ref 17, .int x1, .int x2, .int x3, .int x4, d5]) (st' := [.int (mem 18 x4.toNatClampNeg)]) (mem' := mem) hS hC rfl k.1 ?_
    replace k := k.2
    refine ex_many (pc' := 31) (ls' := [.ref 17, .int x1, .int x2, .int x3, .int x4, d5]) (st' := [.int (x1 - x4), .ref 19, .int (mem 18 x4.toNatClampNeg)]) (mem' := mem) hS hC 5 rfl ?_
    refine ex_grd (b := pm_inb (x1 - x4) 121) (pc' := 32) (ls' := [.ref 17, .int x1, .int x2, .int x3, .int x4, d5]) (st' := [.int (mem 19 ((x1 - x4).toNatClampNeg)), .int (mem 18 x4.toNatClampNeg)]) (mem' := mem) hS hC rfl k.1 ?_
    replace k := k.2
    refine ex_many (pc' := 36) (ls' := [.ref 17, .int x1, .int x2, .int x3, .int x4, .int ((mem 18 x4.toNatClampNeg) + (mem 19 ((x1 - x4).toNatClampNeg)))]) (st' := [.int x2]) (mem' := mem) hS hC 3 rfl ?_
    have kp17 : pm_Ex ro m_X3_bestOfTwo 57 [.ref 17, .int x1, .int x2, .int (if x2 = 0 then (if x3 ≤ ((mem 18 x4.toNatClampNeg) + (mem 19 ((x1 - x4).toNatClampNeg))) then x3 else (mem 18 x4.toNatClampNeg) + (mem 19 ((x1 - x4).toNatClampNeg)) : Int32) else (if ((mem 18 x4.toNatClampNeg) + (mem 19 ((x1 - x4).toNatClampNeg))) ≤ x3 then x3 else (mem 18 x4.toNatClampNeg) + (mem 19 ((x1 - x4).toNatClampNeg)) : Int32) : Int32), .int x4, .int ((mem 18 x4.toNatClampNeg) + (mem 19 ((x1 - x4).toNatClampNeg)))] [] mem Q := by
      refine ex_many (pc' := 10) (ls' := [.ref 17, .int x1, .int x2, .int (if x2 = 0 then (if x3 ≤ ((mem 18 x4.toNatClampNeg) + (mem 19 ((x1 - x4).toNatClampNeg))) then x3 else (mem 18 x4.toNatClampNeg) + (mem 19 ((x1 - x4).toNatClampNeg)) : Int32) else (if ((mem 18 x4.toNatClampNeg) + (mem 19 ((x1 - x4).toNatClampNeg))) ≤ x3 then x3 else (mem 18 x4.toNatClampNeg) + (mem 19 ((x1 - x4).toNatClampNeg)) : Int32) : Int32), .int (x4 + 1), .int ((mem 18 x4.toNatClampNeg) + (mem 19 ((x1 - x4).toNatClampNeg)))]) (st' := []) (mem' := mem) hS hC 2 rfl ?_
      exact k
    refine ex_br (P := x2 = 0) (a := 48) (b := 39) (ls' := [.ref 17, .int x1, .int x2, .int x3, .int x4, .int ((mem 18 x4.toNatClampNeg) + (mem 19 ((x1 - x4).toNatClampNeg)))]) (st' := []) (mem' := mem) hS hC rfl (fun h => ?_) (fun h => ?_)
    · have kp17a : pm_Ex ro m_X3_bestOfTwo 57 [.ref 17, .int x1, .int x2, .int (if x3 ≤ ((mem 18 x4.toNatClampNeg) + (mem 19 ((x1 - x4).toNatClampNeg))) then x3 else (mem 18 x4.toNatClampNeg) + (mem 19 ((x1 - x4).toNatClampNeg)) : Int32), .int x4, .int ((mem 18 x4.toNatClampNeg) + (mem 19 ((x1 - x4).toNatClampNeg)))] [] mem Q := pm_phi1 (f := fun z0 => pm_Ex ro m_X3_bestOfTwo 57 [.ref 17, .int x1, .int x2, .int z0, .int x4, .int ((mem 18 x4.toNatClampNeg) + (mem 19 ((x1 - x4).toNatClampNeg)))] [] mem Q) (if_pos (h)) kp17
      have kp15 : pm_Ex ro m_X3_bestOfTwo 57 [.ref 17, .int x1, .int x2, .int (if x3 ≤ ((mem 18 x4.toNatClampNeg) + (mem 19 ((x1 - x4).toNatClampNeg))) then x3 else (mem 18 x4.toNatClampNeg) + (mem 19 ((x1 - x4).toNatClampNeg)) : Int32), .int x4, .int ((mem 18 x4.toNatClampNeg) + (mem 19 ((x1 - x4).toNatClampNeg)))] [] mem Q := by
        exact kp17a
      refine ex_many (pc' := 51) (ls' := [.ref 17, .int x1, .int x2, .int x3, .int x4, .int ((mem 18 x4.toNatClampNeg) + (mem 19 ((x1 - x4).toNatClampNeg)))]) (st' := [.int x3, .int ((mem 18 x4.toNatClampNeg) + (mem 19 ((x1 - x4).toNatClampNeg)))]) (mem' := mem) hS hC 2 rfl ?_
      refine ex_br (P := x3 ≤ ((mem 18 x4.toNatClampNeg) + (mem 19 ((x1 - x4).toNatClampNeg)))) (a := 57) (b := 54) (ls' := [.ref 17, .int x1, .int x2, .int x3, .int x4, .int ((mem 18 x4.toNatClampNeg) + (mem 19 ((x1 - x4).toNatClampNeg)))]) (st' := []) (mem' := mem) hS hC rfl (fun h => ?_) (fun h => ?_)
      · have kp15a : pm_Ex ro m_X3_bestOfTwo 57 [.ref 17, .int x1, .int x2, .int x3, .int x4, .int ((mem 18 x4.toNatClampNeg) + (mem 19 ((x1 - x4).toNatClampNeg)))] [] mem Q := pm_phi1 (f := fun z0 => pm_Ex ro m_X3_bestOfTwo 57 [.ref 17, .int x1, .int x2, .int z0, .int x4, .int ((mem 18 x4.toNatClampNeg) + (mem 19 ((x1 - x4).toNatClampNeg)))] [] mem Q) (if_pos (h)) kp15
        exact kp15a
      · have kp15b : pm_Ex ro m_X3_bestOfTwo 57 [.ref 17, .int x1, .int x2, .int ((mem 18 x4.toNatClampNeg) + (mem 19 ((x1 - x4).toNatClampNeg))), .int x4, .int ((mem 18 x4.toNatClampNeg) + (mem 19 ((x1 - x4).toNatClampNeg)))] [] mem Q := pm_phi1 (f := fun z0 => pm_Ex ro m_X3_bestOfTwo 57 [.ref 17, .int x1, .int x2, .int z0, .int x4, .int ((mem 18 x4.toNatClampNeg) + (mem 19 ((x1 - x4).toNatClampNeg)))] [] mem Q) (if_neg (h)) kp15
        refine ex_many (pc' := 57) (ls' := [.ref 17, .int x1, .int x2, .int ((mem 18 x4.toNatClampNeg) + (mem 19 ((x1 - x4).toNatClampNeg))), .int x4, .int ((mem 18 x4.toNatClampNeg) + (mem 19 ((x1 - x4).toNatClampNeg)))]) (st' := []) (mem' := mem) hS hC 2 rfl ?_
        exact kp15b
    · have kp17b : pm_Ex ro m_X3_bestOfTwo 57 [.ref 17, .int x1, .int x2, .int (if ((mem 18 x4.toNatClampNeg) + (mem 19 ((x1 - x4).toNatClampNeg))) ≤ x3 then x3 else (mem 18 x4.toNatClampNeg) + (mem 19 ((x1 - x4).toNatClampNeg)) : Int32), .int x4, .int ((mem 18 x4.toNatClampNeg) + (mem 19 ((x1 - x4).toNatClampNeg)))] [] mem Q := pm_phi1 (f := fun z0 => pm_Ex ro m_X3_bestOfTwo 57 [.ref 17, .int x1, .int x2, .int z0, .int x4, .int ((mem 18 x4.toNatClampNeg) + (mem 19 ((x1 - x4).toNatClampNeg)))] [] mem Q) (if_neg (h)) kp17
      have kp16 : pm_Ex ro m_X3_bestOfTwo 57 [.ref 17, .int x1, .int x2, .int (if ((mem 18 x4.toNatClampNeg) + (mem 19 ((x1 - x4).toNatClampNeg))) ≤ x3 then x3 else (mem 18 x4.toNatClampNeg) + (mem 19 ((x1 - x4).toNatClampNeg)) : Int32), .int x4, .int ((mem 18 x4.toNatClampNeg) + (mem 19 ((x1 - x4).toNatClampNeg)))] [] mem Q := by
        exact kp17b
      refine ex_many (pc' := 42) (ls' := [.ref 17, .int x1, .int x2, .int x3, .int x4, .int ((mem 18 x4.toNatClampNeg) + (mem 19 ((x1 - x4).toNatClampNeg)))]) (st' := [.int x3, .int ((mem 18 x4.toNatClampNeg) + (mem 19 ((x1 - x4).toNatClampNeg)))]) (mem' := mem) hS hC 2 rfl ?_
      refine ex_br (P := ((mem 18 x4.toNatClampNeg) + (mem 19 ((x1 - x4).toNatClampNeg))) ≤ x3) (a := 57) (b := 45) (ls' := [.ref 17, .int x1, .int x2, .int x3, .int x4, .int ((mem 18 x4.toNatClampNeg) + (mem 19 ((x1 - x4).toNatClampNeg)))]) (st' := []) (mem' := mem) hS hC rfl (fun h => ?_) (fun h => ?_)
      · have kp16a : pm_Ex ro m_X3_bestOfTwo 57 [.ref 17, .int x1, .int x2, .int x3, .int x4, .int ((mem 18 x4.toNatClampNeg) + (mem 19 ((x1 - x4).toNatClampNeg)))] [] mem Q := pm_phi1 (f := fun z0 => pm_Ex ro m_X3_bestOfTwo 57 [.ref 17, .int x1, .int x2, .int z0, .int x4, .int ((mem 18 x4.toNatClampNeg) + (mem 19 ((x1 - x4).toNatClampNeg)))] [] mem Q) (if_pos (h)) kp16
        exact kp16a
      · have kp16b : pm_Ex ro m_X3_bestOfTwo 57 [.ref 17, .int x1, .int x2, .int ((mem 18 x4.toNatClampNeg) + (mem 19 ((x1 - x4).toNatClampNeg))), .int x4, .int ((mem 18 x4.toNatClampNeg) + (mem 19 ((x1 - x4).toNatClampNeg)))] [] mem Q := pm_phi1 (f := fun z0 => pm_Ex ro m_X3_bestOfTwo 57 [.ref 17, .int x1, .int x2, .int z0, .int x4, .int ((mem 18 x4.toNatClampNeg) + (mem 19 ((x1 - x4).toNatClampNeg)))] [] mem Q) (if_neg (h)) kp16
        refine ex_many (pc' := 57) (ls' := [.ref 17, .int x1, .int x2, .int ((mem 18 x4.toNatClampNeg) + (mem 19 ((x1 - x4).toNatClampNeg))), .int x4, .int ((mem 18 x4.toNatClampNeg) + (mem 19 ((x1 - x4).toNatClampNeg)))]) (st' := []) (mem' := mem) hS hC 3 rfl ?_
        exact kp16b

set_option maxRecDepth 20000 in
theorem bk_X3_part_0 {ro : pm_RO} {Q : Option Value → pm_M → Prop} {mem : pm_M} {a1 a2 a3 : Int32} (k : pm_Ex ro m_X3_part 3 [.ref 17, .int a1, .int a2, .int a3, .int 0, .null] [] mem Q) : pm_Ex ro m_X3_part 0 [.ref 17, .int a1, .int a2, .int a3, .null, .null] [] mem Q := by
  have hS : pm_sig[m_X3_part]? = some _ := rfl
  have hC : pm_cod[m_X3_part]? = some _ := rfl
  refine ex_many (pc' := 3) (ls' := [.ref 17, .int a1, .int a2, .int a3, .int 0, .null]) (st' := []) (mem' := mem) hS hC 2 rfl ?_
  exact k

set_option maxRecDepth 20000 in
theorem bk_X3_part_3 {ro : pm_RO} {Q : Option Value → pm_M → Prop} {mem : pm_M} {x1 x2 x3 x4 : Int32} (k : (x1 < x4 → pm_Ex ro m_X3_part 48 [.ref 17, .int x1, .int x2, .int x3, .int 2, .null] [] mem Q) ∧ (¬ (x1 < x4) → pm_Ex ro m_X2_paidFor 0 [.ref 1, .int x4, .null, .null, .null, .null, .null, .null] [] mem (fun v m => pm_Ex ro m_X3_part 24 [.ref 17, .int x1, .int x2, .int x3, .int x4, .null] (v.toList ++ [.int x4, .ref 18]) m Q))) : pm_Ex ro m_X3_part 3 [.ref 17, .int x1, .int x2, .int x3, .int x4, .null] [] mem Q := by
  have hS : pm_sig[m_X3_part]? = some _ := rfl
  have hC : pm_cod[m_X3_part]? = some _ := rfl
  refine ex_many (pc' := 6) (ls' := [.ref 17, .int x1, .int x2, .int x3, .int x4, .null]) (st' := [.int x1, .int x4]) (mem' := mem) hS hC 2 rfl ?_
  refine ex_br (P := x1 < x4) (a := 45) (b := 9) (ls' := [.ref 17, .int x1, .int x2, .int x3, .int x4, .null]) (st' := []) (mem' := mem) hS hC rfl (fun h => ?_) (fun h => ?_)
  · replace k := k.1 (h)
    refine ex_many (pc' := 48) (ls' := [.ref 17, .int x1, .int x2, .int x3, .int 2, .null]) (st' := []) (mem' := mem) hS hC 2 rfl ?_
    exact k
  · replace k := k.2 (h)
    refine ex_many (pc' := 21) (ls' := [.ref 17, .int x1, .int x2, .int x3, .int x4, .null]) (st' := [.int x4, .ref 1, .int x4, .ref 18]) (mem' := mem) hS hC 6 rfl ?_
    refine ex_call (y' := m_X2_paidFor) (rest := [.int x4, .ref 18]) (ent := [.ref 1, .int x4, .null, .null, .null, .null, .null, .null]) hS hC rfl rfl rfl rfl rfl rfl ?_
    exact k

set_option maxRecDepth 20000 in
theorem bk_X3_part_48 {ro : pm_RO} {Q : Option Value → pm_M → Prop} {mem : pm_M} {x1 x2 x3 x4 : Int32} {d5 : Value} (k : (x2 < x4 → (pm_inb x1 121 = true) ∧ (Q (some (.int (mem 19 x1.toNatClampNeg))) mem)) ∧ (¬ (x2 < x4) → pm_Ex ro m_X3_part 57 [.ref 17, .int x1, .int x2, .int x3, .int x4, .int x1] [] mem Q)) : pm_Ex ro m_X3_part 48 [.ref 17, .int x1, .int x2, .int x3, .int x4, d5] [] mem Q := by
  have hS : pm_sig[m_X3_part]? = some _ := rfl
  have hC : pm_cod[m_X3_part]? = some _ := rfl
  refine ex_many (pc' := 51) (ls' := [.ref 17, .int x1, .int x2, .int x3, .int x4, d5]) (st' := [.int x2, .int x4]) (mem' := mem) hS hC 2 rfl ?_
  refine ex_br (P := x2 < x4) (a := 88) (b := 54) (ls' := [.ref 17, .int x1, .int x2, .int x3, .int x4, d5]) (st' := []) (mem' := mem) hS hC rfl (fun h => ?_) (fun h => ?_)
  · replace k := k.1 (h)
    refine ex_many (pc' := 93) (ls' := [.ref 17, .int x1, .int x2, .int x3, .int x4, d5]) (st' := [.int x1, .ref 19]) (mem' := mem) hS hC 3 rfl ?_
    refine ex_grd (b := pm_inb x1 121) (pc' := 94) (ls' := [.ref 17, .int x1, .int x2, .int x3, .int x4, d5]) (st' := [.int (mem 19 x1.toNatClampNeg)]) (mem' := mem) hS hC rfl k.1 ?_
    replace k := k.2
    exact ex_ret (v := (some (.int (mem 19 x1.toNatClampNeg)))) hS hC rfl rfl rfl k
  · replace k := k.2 (h)
    refine ex_many (pc' := 57) (ls' := [.ref 17, .int x1, .int x2, .int x3, .int x4, .int x1]) (st' := []) (mem' := mem) hS hC 2 rfl ?_
    exact k

set_option maxRecDepth 20000 in
theorem bk_X3_part_57 {ro : pm_RO} {Q : Option Value → pm_M → Prop} {mem : pm_M} {x1 x2 x3 x4 x5 : Int32} (k : (x5 < 0 → pm_Ex ro m_X3_part 48 [.ref 17, .int x1, .int x2, .int x3, .int (x4 + 1), .int x5] [] mem Q) ∧ (¬ (x5 < 0) → pm_Ex ro m_X3_bestOfTwo 0 [.ref 17, .int x5, .int x3, .null, .null, .null] [] mem (fun v m => pm_Ex ro m_X3_part 75 [.ref 17, .int x1, .int x2, .int x3, .int x4, .int x5] (v.toList ++ [.int x5, .ref 19]) m Q))) : pm_Ex ro m_X3_part 57 [.ref 17, .int x1, .int x2, .int x3, .int x4, .int x5] [] mem Q := by
  have hS : pm_sig[m_X3_part]? = some _ := rfl
  have hC : pm_cod[m_X3_part]? = some _ := rfl
  refine ex_many (pc' := 59) (ls' := [.ref 17, .int x1, .int x2, .int x3, .int x4, .int x5]) (st' := [.int x5]) (mem' := mem) hS hC 1 rfl ?_
  refine ex_br (P := x5 < 0) (a := 82) (b := 62) (ls' := [.ref 17, .int x1, .int x2, .int x3, .int x4, .int x5]) (st' := []) (mem' := mem) hS hC rfl (fun h => ?_) (fun h => ?_)
  · replace k := k.1 (h)
    refine ex_many (pc' := 48) (ls' := [.ref 17, .int x1, .int x2, .int x3, .int (x4 + 1), .int x5]) (st' := []) (mem' := mem) hS hC 2 rfl ?_
    exact k
  · replace k := k.2 (h)
    refine ex_many (pc' := 72) (ls' := [.ref 17, .int x1, .int x2, .int x3, .int x4, .int x5]) (st' := [.int x3, .int x5, .ref 17, .int x5, .ref 19]) (mem' := mem) hS hC 6 rfl ?_
    refine ex_call (y' := m_X3_bestOfTwo) (rest := [.int x5, .ref 19]) (ent := [.ref 17, .int x5, .int x3, .null, .null, .null]) hS hC rfl rfl rfl rfl rfl rfl ?_
    exact k

set_option maxRecDepth 20000 in
theorem bk_X3_part_24 {ro : pm_RO} {Q : Option Value → pm_M → Prop} {mem : pm_M} {x1 x2 x3 x4 s0 s1 : Int32} (k : (pm_inb s1 121 = true) ∧ ((pm_inb x4 121 = true) ∧ ((pm_inb x4 121 = true) ∧ (pm_Ex ro m_X3_part 3 [.ref 17, .int x1, .int x2, .int x3, .int (x4 + 1), .null] [] (pm_up (pm_up mem 18 s1.toNatClampNeg s0) 19 x4.toNatClampNeg ((pm_up mem 18 s1.toNatClampNeg s0) 18 x4.toNatClampNeg)) Q)))) : pm_Ex ro m_X3_part 24 [.ref 17, .int x1, .int x2, .int x3, .int x4, .null] [.int s0, .int s1, .ref 18] mem Q := by
  have hS : pm_sig[m_X3_part]? = some _ := rfl
  have hC : pm_cod[m_X3_part]? = some _ := rfl
  refine ex_grd (b := pm_inb s1 121) (pc' := 25) (ls' := [.ref 17, .int x1, .int x2, .int x3, .int x4, .null]) (st' := []) (mem' := pm_up mem 18 s1.toNatClampNeg s0) hS hC rfl k.1 ?_
  replace k := k.2
  refine ex_many (pc' := 37) (ls' := [.ref 17, .int x1, .int x2, .int x3, .int x4, .null]) (st' := [.int x4, .ref 18, .int x4, .ref 19]) (mem' := pm_up mem 18 s1.toNatClampNeg s0) hS hC 6 rfl ?_
  refine ex_grd (b := pm_inb x4 121) (pc' := 38) (ls' := [.ref 17, .int x1, .int x2, .int x3, .int x4, .null]) (st' := [.int ((pm_up mem 18 s1.toNatClampNeg s0) 18 x4.toNatClampNeg), .int x4, .ref 19]) (mem' := pm_up mem 18 s1.toNatClampNeg s0) hS hC rfl k.1 ?_
  replace k := k.2
  refine ex_grd (b := pm_inb x4 121) (pc' := 39) (ls' := [.ref 17, .int x1, .int x2, .int x3, .int x4, .null]) (st' := []) (mem' := pm_up (pm_up mem 18 s1.toNatClampNeg s0) 19 x4.toNatClampNeg ((pm_up mem 18 s1.toNatClampNeg s0) 18 x4.toNatClampNeg)) hS hC rfl k.1 ?_
  replace k := k.2
  refine ex_many (pc' := 3) (ls' := [.ref 17, .int x1, .int x2, .int x3, .int (x4 + 1), .null]) (st' := []) (mem' := pm_up (pm_up mem 18 s1.toNatClampNeg s0) 19 x4.toNatClampNeg ((pm_up mem 18 s1.toNatClampNeg s0) 18 x4.toNatClampNeg)) hS hC 2 rfl ?_
  exact k

set_option maxRecDepth 20000 in
theorem bk_X3_part_75 {ro : pm_RO} {Q : Option Value → pm_M → Prop} {mem : pm_M} {x1 x2 x3 x4 x5 s0 s1 : Int32} (k : (pm_inb s1 121 = true) ∧ (pm_Ex ro m_X3_part 57 [.ref 17, .int x1, .int x2, .int x3, .int x4, .int (x5 + (-1))] [] (pm_up mem 19 s1.toNatClampNeg s0) Q)) : pm_Ex ro m_X3_part 75 [.ref 17, .int x1, .int x2, .int x3, .int x4, .int x5] [.int s0, .int s1, .ref 19] mem Q := by
  have hS : pm_sig[m_X3_part]? = some _ := rfl
  have hC : pm_cod[m_X3_part]? = some _ := rfl
  refine ex_grd (b := pm_inb s1 121) (pc' := 76) (ls' := [.ref 17, .int x1, .int x2, .int x3, .int x4, .int x5]) (st' := []) (mem' := pm_up mem 19 s1.toNatClampNeg s0) hS hC rfl k.1 ?_
  replace k := k.2
  refine ex_many (pc' := 57) (ls' := [.ref 17, .int x1, .int x2, .int x3, .int x4, .int (x5 + (-1))]) (st' := []) (mem' := pm_up mem 19 s1.toNatClampNeg s0) hS hC 2 rfl ?_
  exact k

set_option maxRecDepth 20000 in
theorem bk_X6_isLost_0 {ro : pm_RO} {Q : Option Value → pm_M → Prop} {mem : pm_M} {t : Nat} (ht : pm_isSh t) (k : Q (some (.int (zb (¬ (¬ (mem t 1) = (-1)))))) mem) : pm_Ex ro m_X6_isLost 0 [.ref t] [] mem Q := by
  have hS : pm_sig[m_X6_isLost]? = some _ := rfl
  have hC : pm_cod[m_X6_isLost]? = some _ := rfl
  refine ex_many (pc' := 1) (ls' := [.ref t]) (st' := [.ref t]) (mem' := mem) hS hC 1 rfl ?_
  refine ex_getS hS hC rfl (pm_shl ht) rfl ?_
  show pm_Ex ro m_X6_isLost 4 [.ref t] [.int (mem t 1)] mem Q
  refine ex_many (pc' := 5) (ls' := [.ref t]) (st' := [.int (-1), .int (mem t 1)]) (mem' := mem) hS hC 1 rfl ?_
  have kp18 : pm_Ex ro m_X6_isLost 13 [.ref t] [.int (zb (¬ (¬ (mem t 1) = (-1))))] mem Q := by
    exact ex_retz hS hC rfl rfl rfl (zb_01 _) k
  refine ex_br (P := ¬ (mem t 1) = (-1)) (a := 12) (b := 8) (ls' := [.ref t]) (st' := []) (mem' := mem) hS hC rfl (fun h => ?_) (fun h => ?_)
  · have kp18a : pm_Ex ro m_X6_isLost 13 [.ref t] [.int 0] mem Q := pm_phi1 (f := fun z0 => pm_Ex ro m_X6_isLost 13 [.ref t] [.int z0] mem Q) (zb_npos (h)) kp18
    refine ex_many (pc' := 13) (ls' := [.ref t]) (st' := [.int 0]) (mem' := mem) hS hC 1 rfl ?_
    exact kp18a
  · have kp18b : pm_Ex ro m_X6_isLost 13 [.ref t] [.int 1] mem Q := pm_phi1 (f := fun z0 => pm_Ex ro m_X6_isLost 13 [.ref t] [.int z0] mem Q) (zb_nneg (h)) kp18
    refine ex_many (pc' := 13) (ls' := [.ref t]) (st' := [.int 1]) (mem' := mem) hS hC 2 rfl ?_
    exact kp18b

set_option maxRecDepth 20000 in
theorem bk_X6_size_0 {ro : pm_RO} {Q : Option Value → pm_M → Prop} {mem : pm_M} {t : Nat} (ht : pm_isSh t) (k : Q (some (.int (mem t 2))) mem) : pm_Ex ro m_X6_size 0 [.ref t] [] mem Q := by
  have hS : pm_sig[m_X6_size]? = some _ := rfl
  have hC : pm_cod[m_X6_size]? = some _ := rfl
  refine ex_many (pc' := 1) (ls' := [.ref t]) (st' := [.ref t]) (mem' := mem) hS hC 1 rfl ?_
  refine ex_getS hS hC rfl (pm_shl ht) rfl ?_
  show pm_Ex ro m_X6_size 4 [.ref t] [.int (mem t 2)] mem Q
  exact ex_ret (v := (some (.int (mem t 2)))) hS hC rfl rfl rfl k

set_option maxRecDepth 20000 in
theorem bk_X6_itemAt_0 {ro : pm_RO} {Q : Option Value → pm_M → Prop} {mem : pm_M} {a1 : Int32} {t : Nat} (ht : pm_isSh t) (k : (pm_inb a1 60 = true) ∧ (Q (some (.int (mem (t + 1) a1.toNatClampNeg))) mem)) : pm_Ex ro m_X6_itemAt 0 [.ref t, .int a1] [] mem Q := by
  have hS : pm_sig[m_X6_itemAt]? = some _ := rfl
  have hC : pm_cod[m_X6_itemAt]? = some _ := rfl
  refine ex_many (pc' := 1) (ls' := [.ref t, .int a1]) (st' := [.ref t]) (mem' := mem) hS hC 1 rfl ?_
  refine ex_getSr hS hC rfl (pm_shl ht) rfl ?_
  show pm_Ex ro m_X6_itemAt 4 [.ref t, .int a1] [.ref (t + 1)] mem Q
  refine ex_many (pc' := 5) (ls' := [.ref t, .int a1]) (st' := [.int a1, .ref (t + 1)]) (mem' := mem) hS hC 1 rfl ?_
  refine ex_aldS hS hC rfl (pm_shi ht) k.1 ?_
  replace k := k.2
  show pm_Ex ro m_X6_itemAt 6 [.ref t, .int a1] [.int (mem (t + 1) a1.toNatClampNeg)] mem Q
  exact ex_ret (v := (some (.int (mem (t + 1) a1.toNatClampNeg)))) hS hC rfl rfl rfl k

set_option maxRecDepth 20000 in
theorem bk_X6_renew_0 {ro : pm_RO} {Q : Option Value → pm_M → Prop} {mem : pm_M} {a1 a2 : Int32} {t : Nat} (ht : pm_isSh t) (k : pm_Ex ro m_J7_fill_53178 0 [.ref (t + 1), .int 0, .null, .null] [] (pm_up (pm_up mem t 1 a1) t 2 a2) (fun v m => pm_Ex ro m_X6_renew 18 [.ref t, .int a1, .int a2] (v.toList ++ []) m Q)) : pm_Ex ro m_X6_renew 0 [.ref t, .int a1, .int a2] [] mem Q := by
  have hS : pm_sig[m_X6_renew]? = some _ := rfl
  have hC : pm_cod[m_X6_renew]? = some _ := rfl
  refine ex_many (pc' := 2) (ls' := [.ref t, .int a1, .int a2]) (st' := [.int a1, .ref t]) (mem' := mem) hS hC 2 rfl ?_
  refine ex_putS hS hC rfl (pm_shl ht) rfl ?_
  show pm_Ex ro m_X6_renew 5 [.ref t, .int a1, .int a2] [] (pm_up mem t 1 a1) Q
  refine ex_many (pc' := 7) (ls' := [.ref t, .int a1, .int a2]) (st' := [.int a2, .ref t]) (mem' := pm_up mem t 1 a1) hS hC 2 rfl ?_
  refine ex_putS hS hC rfl (pm_shl ht) rfl ?_
  show pm_Ex ro m_X6_renew 10 [.ref t, .int a1, .int a2] [] (pm_up (pm_up mem t 1 a1) t 2 a2) Q
  refine ex_many (pc' := 11) (ls' := [.ref t, .int a1, .int a2]) (st' := [.ref t]) (mem' := pm_up (pm_up mem t 1 a1) t 2 a2) hS hC 1 rfl ?_
  refine ex_getSr hS hC rfl (pm_shl ht) rfl ?_
  show pm_Ex ro m_X6_renew 14 [.ref t, .int a1, .int a2] [.ref (t + 1)] (pm_up (pm_up mem t 1 a1) t 2 a2) Q
  refine ex_many (pc' := 15) (ls' := [.ref t, .int a1, .int a2]) (st' := [.int 0, .ref (t + 1)]) (mem' := pm_up (pm_up mem t 1 a1) t 2 a2) hS hC 1 rfl ?_
  refine ex_call (y' := m_J7_fill_53178) (rest := []) (ent := [.ref (t + 1), .int 0, .null, .null]) hS hC rfl rfl rfl rfl rfl rfl ?_
  exact k

set_option maxRecDepth 20000 in
theorem bk_X6_renew_18 {ro : pm_RO} {Q : Option Value → pm_M → Prop} {mem : pm_M} {x1 x2 : Int32} {t : Nat} (ht : pm_isSh t) (k : Q none mem) : pm_Ex ro m_X6_renew 18 [.ref t, .int x1, .int x2] [] mem Q := by
  have hS : pm_sig[m_X6_renew]? = some _ := rfl
  have hC : pm_cod[m_X6_renew]? = some _ := rfl
  exact ex_ret (v := none) hS hC rfl rfl rfl k

set_option maxRecDepth 20000 in
theorem bk_X6_giveUp_0 {ro : pm_RO} {Q : Option Value → pm_M → Prop} {mem : pm_M} {t : Nat} (ht : pm_isSh t) (k : Q none (pm_up (pm_up mem t 1 (-1)) t 2 0)) : pm_Ex ro m_X6_giveUp 0 [.ref t] [] mem Q := by
  have hS : pm_sig[m_X6_giveUp]? = some _ := rfl
  have hC : pm_cod[m_X6_giveUp]? = some _ := rfl
  refine ex_many (pc' := 2) (ls' := [.ref t]) (st' := [.int (-1), .ref t]) (mem' := mem) hS hC 2 rfl ?_
  refine ex_putS hS hC rfl (pm_shl ht) rfl ?_
  show pm_Ex ro m_X6_giveUp 5 [.ref t] [] (pm_up mem t 1 (-1)) Q
  refine ex_many (pc' := 7) (ls' := [.ref t]) (st' := [.int 0, .ref t]) (mem' := pm_up mem t 1 (-1)) hS hC 2 rfl ?_
  refine ex_putS hS hC rfl (pm_shl ht) rfl ?_
  show pm_Ex ro m_X6_giveUp 10 [.ref t] [] (pm_up (pm_up mem t 1 (-1)) t 2 0) Q
  exact ex_ret (v := none) hS hC rfl rfl rfl k

set_option maxRecDepth 20000 in
theorem bk_X6_put_0 {ro : pm_RO} {Q : Option Value → pm_M → Prop} {mem : pm_M} {a1 a2 : Int32} {t : Nat} (ht : pm_isSh t) (k : pm_Ex ro m_X6_put 4 [.ref t, .int a1, .int a2] [.int (mem t 1)] mem Q) : pm_Ex ro m_X6_put 0 [.ref t, .int a1, .int a2] [] mem Q := by
  have hS : pm_sig[m_X6_put]? = some _ := rfl
  have hC : pm_cod[m_X6_put]? = some _ := rfl
  refine ex_many (pc' := 1) (ls' := [.ref t, .int a1, .int a2]) (st' := [.ref t]) (mem' := mem) hS hC 1 rfl ?_
  refine ex_getS hS hC rfl (pm_shl ht) rfl ?_
  show pm_Ex ro m_X6_put 4 [.ref t, .int a1, .int a2] [.int (mem t 1)] mem Q
  exact k

set_option maxRecDepth 20000 in
theorem bk_X6_put_4_c0 {ro : pm_RO} {Q : Option Value → pm_M → Prop} {mem : pm_M} {x1 x2 : Int32} {t : Nat} (ht : pm_isSh t) (k : (pm_inb x1 60 = true) ∧ (Q none (pm_up mem (t + 1) x1.toNatClampNeg x2.toInt8.toInt32))) : pm_Ex ro m_X6_put 4 [.ref t, .int x1, .int x2] [.int 0] mem Q := by
  have hS : pm_sig[m_X6_put]? = some _ := rfl
  have hC : pm_cod[m_X6_put]? = some _ := rfl
  refine ex_one (pc' := 32) (ls' := [.ref t, .int x1, .int x2]) (st' := []) (mem' := mem) hS hC rfl ?_
  refine ex_many (pc' := 33) (ls' := [.ref t, .int x1, .int x2]) (st' := [.ref t]) (mem' := mem) hS hC 1 rfl ?_
  refine ex_getSr hS hC rfl (pm_shl ht) rfl ?_
  show pm_Ex ro m_X6_put 36 [.ref t, .int x1, .int x2] [.ref (t + 1)] mem Q
  refine ex_many (pc' := 39) (ls' := [.ref t, .int x1, .int x2]) (st' := [.int x2.toInt8.toInt32, .int x1, .ref (t + 1)]) (mem' := mem) hS hC 3 rfl ?_
  refine ex_astS hS hC rfl (pm_shi ht) k.1 ?_
  replace k := k.2
  show pm_Ex ro m_X6_put 40 [.ref t, .int x1, .int x2] [] (pm_up mem (t + 1) x1.toNatClampNeg x2.toInt8.toInt32) Q
  refine ex_many (pc' := 61) (ls' := [.ref t, .int x1, .int x2]) (st' := []) (mem' := pm_up mem (t + 1) x1.toNatClampNeg x2.toInt8.toInt32) hS hC 1 rfl ?_
  exact ex_ret (v := none) hS hC rfl rfl rfl k

set_option maxRecDepth 20000 in
theorem bk_X6_put_4_c1 {ro : pm_RO} {Q : Option Value → pm_M → Prop} {mem : pm_M} {x1 x2 : Int32} {t : Nat} (ht : pm_isSh t) (k : (pm_inb x1 60 = true) ∧ (Q none (pm_up mem (t + 1) x1.toNatClampNeg x2.toInt16.toInt32))) : pm_Ex ro m_X6_put 4 [.ref t, .int x1, .int x2] [.int 1] mem Q := by
  have hS : pm_sig[m_X6_put]? = some _ := rfl
  have hC : pm_cod[m_X6_put]? = some _ := rfl
  refine ex_one (pc' := 43) (ls' := [.ref t, .int x1, .int x2]) (st' := []) (mem' := mem) hS hC rfl ?_
  refine ex_many (pc' := 44) (ls' := [.ref t, .int x1, .int x2]) (st' := [.ref t]) (mem' := mem) hS hC 1 rfl ?_
  refine ex_getSr hS hC rfl (pm_shl ht) rfl ?_
  show pm_Ex ro m_X6_put 47 [.ref t, .int x1, .int x2] [.ref (t + 1)] mem Q
  refine ex_many (pc' := 50) (ls' := [.ref t, .int x1, .int x2]) (st' := [.int x2.toInt16.toInt32, .int x1, .ref (t + 1)]) (mem' := mem) hS hC 3 rfl ?_
  refine ex_astS hS hC rfl (pm_shi ht) k.1 ?_
  replace k := k.2
  show pm_Ex ro m_X6_put 51 [.ref t, .int x1, .int x2] [] (pm_up mem (t + 1) x1.toNatClampNeg x2.toInt16.toInt32) Q
  refine ex_many (pc' := 61) (ls' := [.ref t, .int x1, .int x2]) (st' := []) (mem' := pm_up mem (t + 1) x1.toNatClampNeg x2.toInt16.toInt32) hS hC 1 rfl ?_
  exact ex_ret (v := none) hS hC rfl rfl rfl k

set_option maxRecDepth 20000 in
theorem bk_X6_put_4_d {ro : pm_RO} {Q : Option Value → pm_M → Prop} {mem : pm_M} {x1 x2 s0 : Int32} {t : Nat} (ht : pm_isSh t) (h0 : ¬ s0 = 0) (h1 : ¬ s0 = 1) (k : (pm_inb x1 60 = true) ∧ (Q none (pm_up mem (t + 1) x1.toNatClampNeg x2))) : pm_Ex ro m_X6_put 4 [.ref t, .int x1, .int x2] [.int s0] mem Q := by
  have hS : pm_sig[m_X6_put]? = some _ := rfl
  have hC : pm_cod[m_X6_put]? = some _ := rfl
  refine ex_lswd hS hC rfl rfl (a := 54) rfl ((lv_osw h0 (by decide)).trans ((lv_osw h1 (by decide)).trans rfl)) ?_
  refine ex_many (pc' := 55) (ls' := [.ref t, .int x1, .int x2]) (st' := [.ref t]) (mem' := mem) hS hC 1 rfl ?_
  refine ex_getSr hS hC rfl (pm_shl ht) rfl ?_
  show pm_Ex ro m_X6_put 58 [.ref t, .int x1, .int x2] [.ref (t + 1)] mem Q
  refine ex_many (pc' := 60) (ls' := [.ref t, .int x1, .int x2]) (st' := [.int x2, .int x1, .ref (t + 1)]) (mem' := mem) hS hC 2 rfl ?_
  refine ex_astS hS hC rfl (pm_shi ht) k.1 ?_
  replace k := k.2
  show pm_Ex ro m_X6_put 61 [.ref t, .int x1, .int x2] [] (pm_up mem (t + 1) x1.toNatClampNeg x2) Q
  exact ex_ret (v := none) hS hC rfl rfl rfl k

set_option maxRecDepth 20000 in
theorem bk_X6_findingAt_0 {ro : pm_RO} {Q : Option Value → pm_M → Prop} {mem : pm_M} {a1 a2 : Int32} {t : Nat} (ht : pm_isSh t) (k : (¬ (¬ (mem t 1) = (-1)) → Q (some (.int 1)) mem) ∧ (¬ (¬ (¬ (mem t 1) = (-1))) → ((mem t 1) = a1 → Q (some (.int (if ¬ (a2 < (0 : Int32)) ∧ (¬ (((mem t 2) - 1) < a2)) then 0 else 2 : Int32))) mem) ∧ (¬ ((mem t 1) = a1) → Q (some (.int 3)) mem))) : pm_Ex ro m_X6_findingAt 0 [.ref t, .int a1, .int a2] [] mem Q := by
  have hS : pm_sig[m_X6_findingAt]? = some _ := rfl
  have hC : pm_cod[m_X6_findingAt]? = some _ := rfl
  refine ex_many (pc' := 1) (ls' := [.ref t, .int a1, .int a2]) (st' := [.ref t]) (mem' := mem) hS hC 1 rfl ?_
  refine ex_call (y' := m_X6_isLost) (rest := []) (ent := [.ref t]) hS hC rfl rfl rfl (pm_calS rfl rfl rfl (pm_shl ht)) rfl rfl ?_
  refine bk_X6_isLost_0 ht ?_
  show pm_Ex ro m_X6_findingAt 4 [.ref t, .int a1, .int a2] [.int (zb (¬ (¬ (mem t 1) = (-1))))] mem Q
  refine ex_br (P := (zb (¬ (¬ (mem t 1) = (-1)))) = 0) (a := 9) (b := 7) (ls' := [.ref t, .int a1, .int a2]) (st' := []) (mem' := mem) hS hC rfl (fun h => ?_) (fun h => ?_)
  · replace k := k.2 (zb0 h)
    refine ex_many (pc' := 10) (ls' := [.ref t, .int a1, .int a2]) (st' := [.ref t]) (mem' := mem) hS hC 1 rfl ?_
    refine ex_getS hS hC rfl (pm_shl ht) rfl ?_
    show pm_Ex ro m_X6_findingAt 13 [.ref t, .int a1, .int a2] [.int (mem t 1)] mem Q
    refine ex_many (pc' := 14) (ls' := [.ref t, .int a1, .int a2]) (st' := [.int a1, .int (mem t 1)]) (mem' := mem) hS hC 1 rfl ?_
    refine ex_br (P := (mem t 1) = a1) (a := 19) (b := 17) (ls' := [.ref t, .int a1, .int a2]) (st' := []) (mem' := mem) hS hC rfl (fun h => ?_) (fun h => ?_)
    · replace k := k.1 (h)
      refine ex_many (pc' := 22) (ls' := [.ref t, .int a1, .int a2]) (st' := [.ref t, .int 0, .int a2]) (mem' := mem) hS hC 3 rfl ?_
      refine ex_getS hS hC rfl (pm_shl ht) rfl ?_
      show pm_Ex ro m_X6_findingAt 25 [.ref t, .int a1, .int a2] [.int (mem t 2), .int 0, .int a2] mem Q
      refine ex_many (pc' := 27) (ls' := [.ref t, .int a1, .int a2]) (st' := [.int ((mem t 2) - 1), .int 0, .int a2]) (mem' := mem) hS hC 2 rfl ?_
      refine ex_call (y' := m_X9_within) (rest := []) (ent := [.int a2, .int 0, .int ((mem t 2) - 1)]) hS hC rfl rfl rfl rfl rfl rfl ?_
      refine bk_X9_within_0 ?_
      show pm_Ex ro m_X6_findingAt 30 [.ref t, .int a1, .int a2] [.int (zb (¬ (a2 < (0 : Int32)) ∧ (¬ (((mem t 2) - 1) < a2))))] mem Q
      have kp19 : pm_Ex ro m_X6_findingAt 38 [.ref t, .int a1, .int a2] [.int (if ¬ (a2 < (0 : Int32)) ∧ (¬ (((mem t 2) - 1) < a2)) then 0 else 2 : Int32)] mem Q := by
        exact ex_ret (v := (some (.int (if ¬ (a2 < (0 : Int32)) ∧ (¬ (((mem t 2) - 1) < a2)) then 0 else 2 : Int32)))) hS hC rfl rfl rfl k
      refine ex_br (P := (zb (¬ (a2 < (0 : Int32)) ∧ (¬ (((mem t 2) - 1) < a2)))) = 0) (a := 37) (b := 33) (ls' := [.ref t, .int a1, .int a2]) (st' := []) (mem' := mem) hS hC rfl (fun h => ?_) (fun h => ?_)
      · have kp19a : pm_Ex ro m_X6_findingAt 38 [.ref t, .int a1, .int a2] [.int 2] mem Q := pm_phi1 (f := fun z0 => pm_Ex ro m_X6_findingAt 38 [.ref t, .int a1, .int a2] [.int z0] mem Q) (if_neg (zb0 h)) kp19
        refine ex_many (pc' := 38) (ls' := [.ref t, .int a1, .int a2]) (st' := [.int 2]) (mem' := mem) hS hC 1 rfl ?_
        exact kp19a
      · have kp19b : pm_Ex ro m_X6_findingAt 38 [.ref t, .int a1, .int a2] [.int 0] mem Q := pm_phi1 (f := fun z0 => pm_Ex ro m_X6_findingAt 38 [.ref t, .int a1, .int a2] [.int z0] mem Q) (if_pos (zb1 h)) kp19
        refine ex_many (pc' := 38) (ls' := [.ref t, .int a1, .int a2]) (st' := [.int 0]) (mem' := mem) hS hC 2 rfl ?_
        exact kp19b
    · replace k := k.2 (h)
      refine ex_many (pc' := 18) (ls' := [.ref t, .int a1, .int a2]) (st' := [.int 3]) (mem' := mem) hS hC 1 rfl ?_
      exact ex_ret (v := (some (.int 3))) hS hC rfl rfl rfl k
  · replace k := k.1 (zb1 h)
    refine ex_many (pc' := 8) (ls' := [.ref t, .int a1, .int a2]) (st' := [.int 1]) (mem' := mem) hS hC 1 rfl ?_
    exact ex_ret (v := (some (.int 1))) hS hC rfl rfl rfl k

set_option maxRecDepth 20000 in
theorem bk_X6_hasRun_0 {ro : pm_RO} {Q : Option Value → pm_M → Prop} {mem : pm_M} {a1 a2 : Int32} {t : Nat} (ht : pm_isSh t) (k : (a1 < 0 → Q (some (.int 0)) mem) ∧ (¬ (a1 < 0) → (a2 < 0 → Q (some (.int 0)) mem) ∧ (¬ (a2 < 0) → ((mem t 2) < a1 → Q (some (.int 0)) mem) ∧ (¬ ((mem t 2) < a1) → Q (some (.int (zb (¬ (((mem t 2) - a1) < a2))))) mem)))) : pm_Ex ro m_X6_hasRun 0 [.ref t, .int a1, .int a2] [] mem Q := by
  have hS : pm_sig[m_X6_hasRun]? = some _ := rfl
  have hC : pm_cod[m_X6_hasRun]? = some _ := rfl
  refine ex_many (pc' := 1) (ls' := [.ref t, .int a1, .int a2]) (st' := [.int a1]) (mem' := mem) hS hC 1 rfl ?_
  refine ex_br (P := a1 < 0) (a := 30) (b := 4) (ls' := [.ref t, .int a1, .int a2]) (st' := []) (mem' := mem) hS hC rfl (fun h => ?_) (fun h => ?_)
  · replace k := k.1 (h)
    refine ex_many (pc' := 31) (ls' := [.ref t, .int a1, .int a2]) (st' := [.int 0]) (mem' := mem) hS hC 1 rfl ?_
    exact ex_ret (v := (some (.int 0))) hS hC rfl rfl rfl k
  · replace k := k.2 (h)
    refine ex_many (pc' := 5) (ls' := [.ref t, .int a1, .int a2]) (st' := [.int a2]) (mem' := mem) hS hC 1 rfl ?_
    refine ex_br (P := a2 < 0) (a := 30) (b := 8) (ls' := [.ref t, .int a1, .int a2]) (st' := []) (mem' := mem) hS hC rfl (fun h => ?_) (fun h => ?_)
    · replace k := k.1 (h)
      refine ex_many (pc' := 31) (ls' := [.ref t, .int a1, .int a2]) (st' := [.int 0]) (mem' := mem) hS hC 1 rfl ?_
      exact ex_ret (v := (some (.int 0))) hS hC rfl rfl rfl k
    · replace k := k.2 (h)
      refine ex_many (pc' := 10) (ls' := [.ref t, .int a1, .int a2]) (st' := [.ref t, .int a1]) (mem' := mem) hS hC 2 rfl ?_
      refine ex_getS hS hC rfl (pm_shl ht) rfl ?_
      show pm_Ex ro m_X6_hasRun 13 [.ref t, .int a1, .int a2] [.int (mem t 2), .int a1] mem Q
      refine ex_br (P := (mem t 2) < a1) (a := 30) (b := 16) (ls' := [.ref t, .int a1, .int a2]) (st' := []) (mem' := mem) hS hC rfl (fun h => ?_) (fun h => ?_)
      · replace k := k.1 (h)
        refine ex_many (pc' := 31) (ls' := [.ref t, .int a1, .int a2]) (st' := [.int 0]) (mem' := mem) hS hC 1 rfl ?_
        exact ex_ret (v := (some (.int 0))) hS hC rfl rfl rfl k
      · replace k := k.2 (h)
        refine ex_many (pc' := 18) (ls' := [.ref t, .int a1, .int a2]) (st' := [.ref t, .int a2]) (mem' := mem) hS hC 2 rfl ?_
        refine ex_getS hS hC rfl (pm_shl ht) rfl ?_
        show pm_Ex ro m_X6_hasRun 21 [.ref t, .int a1, .int a2] [.int (mem t 2), .int a2] mem Q
        refine ex_many (pc' := 23) (ls' := [.ref t, .int a1, .int a2]) (st' := [.int ((mem t 2) - a1), .int a2]) (mem' := mem) hS hC 2 rfl ?_
        have kp20 : pm_Ex ro m_X6_hasRun 31 [.ref t, .int a1, .int a2] [.int (zb (¬ (((mem t 2) - a1) < a2)))] mem Q := by
          exact ex_retz hS hC rfl rfl rfl (zb_01 _) k
        refine ex_br (P := ((mem t 2) - a1) < a2) (a := 30) (b := 26) (ls' := [.ref t, .int a1, .int a2]) (st' := []) (mem' := mem) hS hC rfl (fun h => ?_) (fun h => ?_)
        · have kp20a : pm_Ex ro m_X6_hasRun 31 [.ref t, .int a1, .int a2] [.int 0] mem Q := pm_phi1 (f := fun z0 => pm_Ex ro m_X6_hasRun 31 [.ref t, .int a1, .int a2] [.int z0] mem Q) (zb_npos (h)) kp20
          refine ex_many (pc' := 31) (ls' := [.ref t, .int a1, .int a2]) (st' := [.int 0]) (mem' := mem) hS hC 1 rfl ?_
          exact kp20a
        · have kp20b : pm_Ex ro m_X6_hasRun 31 [.ref t, .int a1, .int a2] [.int 1] mem Q := pm_phi1 (f := fun z0 => pm_Ex ro m_X6_hasRun 31 [.ref t, .int a1, .int a2] [.int z0] mem Q) (zb_nneg (h)) kp20
          refine ex_many (pc' := 31) (ls' := [.ref t, .int a1, .int a2]) (st' := [.int 1]) (mem' := mem) hS hC 2 rfl ?_
          exact kp20b

set_option maxRecDepth 20000 in
theorem bk_X6_takeRun_0 {ro : pm_RO} {Q : Option Value → pm_M → Prop} {mem : pm_M} {a2 a3 a4 : Int32} {t : Nat} (ht : pm_isSh t) {u : Nat} (hu : pm_isSh u) (k : (pm_cpOk a2 a3 a4 60 60 = true) ∧ (Q none (pm_upR mem (t + 1) (va_cpy (mem (u + 1)) (mem (t + 1)) a2.toNatClampNeg a3.toNatClampNeg a4.toNatClampNeg)))) : pm_Ex ro m_X6_takeRun 0 [.ref t, .ref u, .int a2, .int a3, .int a4] [] mem Q := by
  have hS : pm_sig[m_X6_takeRun]? = some _ := rfl
  have hC : pm_cod[m_X6_takeRun]? = some _ := rfl
  refine ex_many (pc' := 1) (ls' := [.ref t, .ref u, .int a2, .int a3, .int a4]) (st' := [.ref u]) (mem' := mem) hS hC 1 rfl ?_
  refine ex_getSr hS hC rfl (pm_shl hu) rfl ?_
  show pm_Ex ro m_X6_takeRun 4 [.ref t, .ref u, .int a2, .int a3, .int a4] [.ref (u + 1)] mem Q
  refine ex_many (pc' := 6) (ls' := [.ref t, .ref u, .int a2, .int a3, .int a4]) (st' := [.ref t, .int a2, .ref (u + 1)]) (mem' := mem) hS hC 2 rfl ?_
  refine ex_getSr hS hC rfl (pm_shl ht) rfl ?_
  show pm_Ex ro m_X6_takeRun 9 [.ref t, .ref u, .int a2, .int a3, .int a4] [.ref (t + 1), .int a2, .ref (u + 1)] mem Q
  refine ex_many (pc' := 12) (ls' := [.ref t, .ref u, .int a2, .int a3, .int a4]) (st' := [.int a4, .int a3, .ref (t + 1), .int a2, .ref (u + 1)]) (mem' := mem) hS hC 2 rfl ?_
  refine ex_cpyS hS hC rfl rfl (pm_shi hu) (pm_shi ht) rfl k.1 ?_
  replace k := k.2
  show pm_Ex ro m_X6_takeRun 15 [.ref t, .ref u, .int a2, .int a3, .int a4] [] (pm_upR mem (t + 1) (va_cpy (mem (u + 1)) (mem (t + 1)) a2.toNatClampNeg a3.toNatClampNeg a4.toNatClampNeg)) Q
  exact ex_ret (v := none) hS hC rfl rfl rfl k

set_option maxRecDepth 20000 in
theorem bk_X6_isLike_0 {ro : pm_RO} {Q : Option Value → pm_M → Prop} {mem : pm_M} {t : Nat} (ht : pm_isSh t) {u : Nat} (hu : pm_isSh u) (k : Q (some (.int (zb (¬ (¬ (mem t 1) = (mem u 1)))))) mem) : pm_Ex ro m_X6_isLike 0 [.ref t, .ref u] [] mem Q := by
  have hS : pm_sig[m_X6_isLike]? = some _ := rfl
  have hC : pm_cod[m_X6_isLike]? = some _ := rfl
  refine ex_many (pc' := 1) (ls' := [.ref t, .ref u]) (st' := [.ref t]) (mem' := mem) hS hC 1 rfl ?_
  refine ex_getS hS hC rfl (pm_shl ht) rfl ?_
  show pm_Ex ro m_X6_isLike 4 [.ref t, .ref u] [.int (mem t 1)] mem Q
  refine ex_many (pc' := 5) (ls' := [.ref t, .ref u]) (st' := [.ref u, .int (mem t 1)]) (mem' := mem) hS hC 1 rfl ?_
  refine ex_getS hS hC rfl (pm_shl hu) rfl ?_
  show pm_Ex ro m_X6_isLike 8 [.ref t, .ref u] [.int (mem u 1), .int (mem t 1)] mem Q
  have kp21 : pm_Ex ro m_X6_isLike 16 [.ref t, .ref u] [.int (zb (¬ (¬ (mem t 1) = (mem u 1))))] mem Q := by
    exact ex_retz hS hC rfl rfl rfl (zb_01 _) k
  refine ex_br (P := ¬ (mem t 1) = (mem u 1)) (a := 15) (b := 11) (ls' := [.ref t, .ref u]) (st' := []) (mem' := mem) hS hC rfl (fun h => ?_) (fun h => ?_)
  · have kp21a : pm_Ex ro m_X6_isLike 16 [.ref t, .ref u] [.int 0] mem Q := pm_phi1 (f := fun z0 => pm_Ex ro m_X6_isLike 16 [.ref t, .ref u] [.int z0] mem Q) (zb_npos (h)) kp21
    refine ex_many (pc' := 16) (ls' := [.ref t, .ref u]) (st' := [.int 0]) (mem' := mem) hS hC 1 rfl ?_
    exact kp21a
  · have kp21b : pm_Ex ro m_X6_isLike 16 [.ref t, .ref u] [.int 1] mem Q := pm_phi1 (f := fun z0 => pm_Ex ro m_X6_isLike 16 [.ref t, .ref u] [.int z0] mem Q) (zb_nneg (h)) kp21
    refine ex_many (pc' := 16) (ls' := [.ref t, .ref u]) (st' := [.int 1]) (mem' := mem) hS hC 2 rfl ?_
    exact kp21b

set_option maxRecDepth 20000 in
theorem bk_X6_fits_0 {ro : pm_RO} {Q : Option Value → pm_M → Prop} {mem : pm_M} {a2 : Int32} {t : Nat} (ht : pm_isSh t) (k : (a2 = (mem t 2) → pm_Ex ro m_X6_fits 12 [.ref t, .ref 32, .int a2, .int 0] [] mem Q) ∧ (¬ (a2 = (mem t 2)) → Q (some (.int 0)) mem)) : pm_Ex ro m_X6_fits 0 [.ref t, .ref 32, .int a2, .null] [] mem Q := by
  have hS : pm_sig[m_X6_fits]? = some _ := rfl
  have hC : pm_cod[m_X6_fits]? = some _ := rfl
  refine ex_many (pc' := 2) (ls' := [.ref t, .ref 32, .int a2, .null]) (st' := [.ref t, .int a2]) (mem' := mem) hS hC 2 rfl ?_
  refine ex_getS hS hC rfl (pm_shl ht) rfl ?_
  show pm_Ex ro m_X6_fits 5 [.ref t, .ref 32, .int a2, .null] [.int (mem t 2), .int a2] mem Q
  refine ex_br (P := a2 = (mem t 2)) (a := 10) (b := 8) (ls' := [.ref t, .ref 32, .int a2, .null]) (st' := []) (mem' := mem) hS hC rfl (fun h => ?_) (fun h => ?_)
  · replace k := k.1 (h)
    refine ex_many (pc' := 12) (ls' := [.ref t, .ref 32, .int a2, .int 0]) (st' := []) (mem' := mem) hS hC 2 rfl ?_
    exact k
  · replace k := k.2 (h)
    refine ex_many (pc' := 9) (ls' := [.ref t, .ref 32, .int a2, .null]) (st' := [.int 0]) (mem' := mem) hS hC 1 rfl ?_
    exact ex_ret (v := (some (.int 0))) hS hC rfl rfl rfl k

set_option maxRecDepth 20000 in
theorem bk_X6_fits_12 {ro : pm_RO} {Q : Option Value → pm_M → Prop} {mem : pm_M} {x2 x3 : Int32} {t : Nat} (ht : pm_isSh t) (k : (x2 ≤ x3 → Q (some (.int 1)) mem) ∧ (¬ (x2 ≤ x3) → (pm_inb x3 60 = true) ∧ (((mem (t + 1) x3.toNatClampNeg) = (-1) → pm_Ex ro m_X6_fits 12 [.ref t, .ref 32, .int x2, .int (x3 + 1)] [] mem Q) ∧ (¬ ((mem (t + 1) x3.toNatClampNeg) = (-1)) → (pm_inb x3 60 = true) ∧ ((pm_inb ((x2 - 1) - x3) 31 = true) ∧ (((mem (t + 1) x3.toNatClampNeg) = (mem 32 (((x2 - 1) - x3).toNatClampNeg)) → pm_Ex ro m_X6_fits 12 [.ref t, .ref 32, .int x2, .int (x3 + 1)] [] mem Q) ∧ (¬ ((mem (t + 1) x3.toNatClampNeg) = (mem 32 (((x2 - 1) - x3).toNatClampNeg))) → Q (some (.int 0)) mem))))))) : pm_Ex ro m_X6_fits 12 [.ref t, .ref 32, .int x2, .int x3] [] mem Q := by
  have hS : pm_sig[m_X6_fits]? = some _ := rfl
  have hC : pm_cod[m_X6_fits]? = some _ := rfl
  refine ex_many (pc' := 14) (ls' := [.ref t, .ref 32, .int x2, .int x3]) (st' := [.int x2, .int x3]) (mem' := mem) hS hC 2 rfl ?_
  refine ex_br (P := x2 ≤ x3) (a := 51) (b := 17) (ls' := [.ref t, .ref 32, .int x2, .int x3]) (st' := []) (mem' := mem) hS hC rfl (fun h => ?_) (fun h => ?_)
  · replace k := k.1 (h)
    refine ex_many (pc' := 52) (ls' := [.ref t, .ref 32, .int x2, .int x3]) (st' := [.int 1]) (mem' := mem) hS hC 1 rfl ?_
    exact ex_ret (v := (some (.int 1))) hS hC rfl rfl rfl k
  · replace k := k.2 (h)
    refine ex_many (pc' := 18) (ls' := [.ref t, .ref 32, .int x2, .int x3]) (st' := [.ref t]) (mem' := mem) hS hC 1 rfl ?_
    refine ex_getSr hS hC rfl (pm_shl ht) rfl ?_
    show pm_Ex ro m_X6_fits 21 [.ref t, .ref 32, .int x2, .int x3] [.ref (t + 1)] mem Q
    refine ex_many (pc' := 22) (ls' := [.ref t, .ref 32, .int x2, .int x3]) (st' := [.int x3, .ref (t + 1)]) (mem' := mem) hS hC 1 rfl ?_
    refine ex_aldS hS hC rfl (pm_shi ht) k.1 ?_
    replace k := k.2
    show pm_Ex ro m_X6_fits 23 [.ref t, .ref 32, .int x2, .int x3] [.int (mem (t + 1) x3.toNatClampNeg)] mem Q
    refine ex_many (pc' := 24) (ls' := [.ref t, .ref 32, .int x2, .int x3]) (st' := [.int (-1), .int (mem (t + 1) x3.toNatClampNeg)]) (mem' := mem) hS hC 1 rfl ?_
    refine ex_br (P := (mem (t + 1) x3.toNatClampNeg) = (-1)) (a := 45) (b := 27) (ls' := [.ref t, .ref 32, .int x2, .int x3]) (st' := []) (mem' := mem) hS hC rfl (fun h => ?_) (fun h => ?_)
    · replace k := k.1 (h)
      refine ex_many (pc' := 12) (ls' := [.ref t, .ref 32, .int x2, .int (x3 + 1)]) (st' := []) (mem' := mem) hS hC 2 rfl ?_
      exact k
    · replace k := k.2 (h)
      refine ex_many (pc' := 28) (ls' := [.ref t, .ref 32, .int x2, .int x3]) (st' := [.ref t]) (mem' := mem) hS hC 1 rfl ?_
      refine ex_getSr hS hC rfl (pm_shl ht) rfl ?_
      show pm_Ex ro m_X6_fits 31 [.ref t, .ref 32, .int x2, .int x3] [.ref (t + 1)] mem Q
      refine ex_many (pc' := 32) (ls' := [.ref t, .ref 32, .int x2, .int x3]) (st' := [.int x3, .ref (t + 1)]) (mem' := mem) hS hC 1 rfl ?_
      refine ex_aldS hS hC rfl (pm_shi ht) k.1 ?_
      replace k := k.2
      show pm_Ex ro m_X6_fits 33 [.ref t, .ref 32, .int x2, .int x3] [.int (mem (t + 1) x3.toNatClampNeg)] mem Q
      refine ex_many (pc' := 39) (ls' := [.ref t, .ref 32, .int x2, .int x3]) (st' := [.int ((x2 - 1) - x3), .ref 32, .int (mem (t + 1) x3.toNatClampNeg)]) (mem' := mem) hS hC 6 rfl ?_
      refine ex_grd (b := pm_inb ((x2 - 1) - x3) 31) (pc' := 40) (ls' := [.ref t, .ref 32, .int x2, .int x3]) (st' := [.int (mem 32 (((x2 - 1) - x3).toNatClampNeg)), .int (mem (t + 1) x3.toNatClampNeg)]) (mem' := mem) hS hC rfl k.1 ?_
      replace k := k.2
      refine ex_br (P := (mem (t + 1) x3.toNatClampNeg) = (mem 32 (((x2 - 1) - x3).toNatClampNeg))) (a := 45) (b := 43) (ls' := [.ref t, .ref 32, .int x2, .int x3]) (st' := []) (mem' := mem) hS hC rfl (fun h => ?_) (fun h => ?_)
      · replace k := k.1 (h)
        refine ex_many (pc' := 12) (ls' := [.ref t, .ref 32, .int x2, .int (x3 + 1)]) (st' := []) (mem' := mem) hS hC 2 rfl ?_
        exact k
      · replace k := k.2 (h)
        refine ex_many (pc' := 44) (ls' := [.ref t, .ref 32, .int x2, .int x3]) (st' := [.int 0]) (mem' := mem) hS hC 1 rfl ?_
        exact ex_ret (v := (some (.int 0))) hS hC rfl rfl rfl k

set_option maxRecDepth 20000 in
theorem bk_X8_bestAmount_0 {ro : pm_RO} {Q : Option Value → pm_M → Prop} {mem : pm_M} {a2 a3 a4 : Int32} {T : Nat} (hT : pm_lay[T]? = some (.inl 209)) (k : pm_Ex ro m_X8_bestAmount 6 [.ref T, .int a2, .int a3, .int a4, .int 0, .int 1, .null, .null] [] mem Q) : pm_Ex ro m_X8_bestAmount 0 [.ref T, .int a2, .int a3, .int a4, .null, .null, .null, .null] [] mem Q := by
  have hS : pm_sig[m_X8_bestAmount]? = some _ := rfl
  have hC : pm_cod[m_X8_bestAmount]? = some _ := rfl
  refine ex_many (pc' := 6) (ls' := [.ref T, .int a2, .int a3, .int a4, .int 0, .int 1, .null, .null]) (st' := []) (mem' := mem) hS hC 4 rfl ?_
  exact k

set_option maxRecDepth 20000 in
theorem bk_X8_bestAmount_6 {ro : pm_RO} {Q : Option Value → pm_M → Prop} {mem : pm_M} {x1 x2 x3 x4 x5 : Int32} {d6 d7 : Value} {T : Nat} (hT : pm_lay[T]? = some (.inl 209)) (k : (9 < x5 → Q (some (.int x4)) mem) ∧ (¬ (9 < x5) → ((x2 &&& ((1 : Int32) <<< (x5 &&& 31))) = 0 → pm_Ex ro m_X8_bestAmount 6 [.ref T, .int x1, .int x2, .int x3, .int x4, .int (x5 + 1), d6, d7] [] mem Q) ∧ (¬ ((x2 &&& ((1 : Int32) <<< (x5 &&& 31))) = 0) → (pm_inb (x1 + x5) 209 = true) ∧ ((x3 = 0 → (pm_inb (x1 + x4) 209 = true) ∧ (pm_Ex ro m_X8_bestAmount 6 [.ref T, .int x1, .int x2, .int x3, .int (if x4 = 0 then x5 else (if ¬ ((mem T ((x1 + x4).toNatClampNeg)) ≤ (mem T ((x1 + x5).toNatClampNeg))) then x5 else x4 : Int32) : Int32), .int (x5 + 1), .int (mem T ((x1 + x5).toNatClampNeg)), .int (zb (¬ ((mem T ((x1 + x4).toNatClampNeg)) ≤ (mem T ((x1 + x5).toNatClampNeg)))))] [] mem Q)) ∧ (¬ (x3 = 0) → (pm_inb (x1 + x4) 209 = true) ∧ (pm_Ex ro m_X8_bestAmount 6 [.ref T, .int x1, .int x2, .int x3, .int (if x4 = 0 then x5 else (if ¬ ((mem T ((x1 + x5).toNatClampNeg)) ≤ (mem T ((x1 + x4).toNatClampNeg))) then x5 else x4 : Int32) : Int32), .int (x5 + 1), .int (mem T ((x1 + x5).toNatClampNeg)), .int (zb (¬ ((mem T ((x1 + x5).toNatClampNeg)) ≤ (mem T ((x1 + x4).toNatClampNeg)))))] [] mem Q)))))) : pm_Ex ro m_X8_bestAmount 6 [.ref T, .int x1, .int x2, .int x3, .int x4, .int x5, d6, d7] [] mem Q := by
  have hS : pm_sig[m_X8_bestAmount]? = some _ := rfl
  have hC : pm_cod[m_X8_bestAmount]? = some _ := rfl
  refine ex_many (pc' := 10) (ls' := [.ref T, .int x1, .int x2, .int x3, .int x4, .int x5, d6, d7]) (st' := [.int 9, .int x5]) (mem' := mem) hS hC 2 rfl ?_
  refine ex_br (P := 9 < x5) (a := 91) (b := 13) (ls' := [.ref T, .int x1, .int x2, .int x3, .int x4, .int x5, d6, d7]) (st' := []) (mem' := mem) hS hC rfl (fun h => ?_) (fun h => ?_)
  · replace k := k.1 (h)
    refine ex_many (pc' := 93) (ls' := [.ref T, .int x1, .int x2, .int x3, .int x4, .int x5, d6, d7]) (st' := [.int x4]) (mem' := mem) hS hC 1 rfl ?_
    exact ex_ret (v := (some (.int x4))) hS hC rfl rfl rfl k
  · replace k := k.2 (h)
    refine ex_many (pc' := 19) (ls' := [.ref T, .int x1, .int x2, .int x3, .int x4, .int x5, d6, d7]) (st' := [.int (x2 &&& ((1 : Int32) <<< (x5 &&& 31)))]) (mem' := mem) hS hC 5 rfl ?_
    refine ex_br (P := (x2 &&& ((1 : Int32) <<< (x5 &&& 31))) = 0) (a := 85) (b := 22) (ls' := [.ref T, .int x1, .int x2, .int x3, .int x4, .int x5, d6, d7]) (st' := []) (mem' := mem) hS hC rfl (fun h => ?_) (fun h => ?_)
    · replace k := k.1 (h)
      refine ex_many (pc' := 6) (ls' := [.ref T, .int x1, .int x2, .int x3, .int x4, .int (x5 + 1), d6, d7]) (st' := []) (mem' := mem) hS hC 2 rfl ?_
      exact k
    · replace k := k.2 (h)
      refine ex_many (pc' := 27) (ls' := [.ref T, .int x1, .int x2, .int x3, .int x4, .int x5, d6, d7]) (st' := [.int (x1 + x5), .ref T]) (mem' := mem) hS hC 4 rfl ?_
      refine ex_aldS hS hC rfl hT k.1 ?_
      replace k := k.2
      show pm_Ex ro m_X8_bestAmount 28 [.ref T, .int x1, .int x2, .int x3, .int x4, .int x5, d6, d7] [.int (mem T ((x1 + x5).toNatClampNeg))] mem Q
      refine ex_many (pc' := 31) (ls' := [.ref T, .int x1, .int x2, .int x3, .int x4, .int x5, .int (mem T ((x1 + x5).toNatClampNeg)), d7]) (st' := [.int x3]) (mem' := mem) hS hC 2 rfl ?_
      refine ex_br (P := x3 = 0) (a := 53) (b := 34) (ls' := [.ref T, .int x1, .int x2, .int x3, .int x4, .int x5, .int (mem T ((x1 + x5).toNatClampNeg)), d7]) (st' := []) (mem' := mem) hS hC rfl (fun h => ?_) (fun h => ?_)
      · replace k := k.1 (h)
        refine ex_many (pc' := 60) (ls' := [.ref T, .int x1, .int x2, .int x3, .int x4, .int x5, .int (mem T ((x1 + x5).toNatClampNeg)), d7]) (st' := [.int (x1 + x4), .ref T, .int (mem T ((x1 + x5).toNatClampNeg))]) (mem' := mem) hS hC 5 rfl ?_
        refine ex_aldS hS hC rfl hT k.1 ?_
        replace k := k.2
        show pm_Ex ro m_X8_bestAmount 61 [.ref T, .int x1, .int x2, .int x3, .int x4, .int x5, .int (mem T ((x1 + x5).toNatClampNeg)), d7] [.int (mem T ((x1 + x4).toNatClampNeg)), .int (mem T ((x1 + x5).toNatClampNeg))] mem Q
        have kp24 : pm_Ex ro m_X8_bestAmount 69 [.ref T, .int x1, .int x2, .int x3, .int x4, .int x5, .int (mem T ((x1 + x5).toNatClampNeg)), d7] [.int (zb (¬ ((mem T ((x1 + x4).toNatClampNeg)) ≤ (mem T ((x1 + x5).toNatClampNeg)))))] mem Q := by
          refine ex_many (pc' := 73) (ls' := [.ref T, .int x1, .int x2, .int x3, .int x4, .int x5, .int (mem T ((x1 + x5).toNatClampNeg)), .int (zb (¬ ((mem T ((x1 + x4).toNatClampNeg)) ≤ (mem T ((x1 + x5).toNatClampNeg)))))]) (st' := [.int x4]) (mem' := mem) hS hC 2 rfl ?_
          have kp23 : pm_Ex ro m_X8_bestAmount 85 [.ref T, .int x1, .int x2, .int x3, .int (if x4 = 0 then x5 else (if ¬ ((mem T ((x1 + x4).toNatClampNeg)) ≤ (mem T ((x1 + x5).toNatClampNeg))) then x5 else x4 : Int32) : Int32), .int x5, .int (mem T ((x1 + x5).toNatClampNeg)), .int (zb (¬ ((mem T ((x1 + x4).toNatClampNeg)) ≤ (mem T ((x1 + x5).toNatClampNeg)))))] [] mem Q := by
            refine ex_many (pc' := 6) (ls' := [.ref T, .int x1, .int x2, .int x3, .int (if x4 = 0 then x5 else (if ¬ ((mem T ((x1 + x4).toNatClampNeg)) ≤ (mem T ((x1 + x5).toNatClampNeg))) then x5 else x4 : Int32) : Int32), .int (x5 + 1), .int (mem T ((x1 + x5).toNatClampNeg)), .int (zb (¬ ((mem T ((x1 + x4).toNatClampNeg)) ≤ (mem T ((x1 + x5).toNatClampNeg)))))]) (st' := []) (mem' := mem) hS hC 2 rfl ?_
            exact k
          refine ex_br (P := x4 = 0) (a := 81) (b := 76) (ls' := [.ref T, .int x1, .int x2, .int x3, .int x4, .int x5, .int (mem T ((x1 + x5).toNatClampNeg)), .int (zb (¬ ((mem T ((x1 + x4).toNatClampNeg)) ≤ (mem T ((x1 + x5).toNatClampNeg)))))]) (st' := []) (mem' := mem) hS hC rfl (fun h => ?_) (fun h => ?_)
          · have kp23a : pm_Ex ro m_X8_bestAmount 85 [.ref T, .int x1, .int x2, .int x3, .int x5, .int x5, .int (mem T ((x1 + x5).toNatClampNeg)), .int (zb (¬ ((mem T ((x1 + x4).toNatClampNeg)) ≤ (mem T ((x1 + x5).toNatClampNeg)))))] [] mem Q := pm_phi1 (f := fun z0 => pm_Ex ro m_X8_bestAmount 85 [.ref T, .int x1, .int x2, .int x3, .int z0, .int x5, .int (mem T ((x1 + x5).toNatClampNeg)), .int (zb (¬ ((mem T ((x1 + x4).toNatClampNeg)) ≤ (mem T ((x1 + x5).toNatClampNeg)))))] [] mem Q) (if_pos (h)) kp23
            refine ex_many (pc' := 85) (ls' := [.ref T, .int x1, .int x2, .int x3, .int x5, .int x5, .int (mem T ((x1 + x5).toNatClampNeg)), .int (zb (¬ ((mem T ((x1 + x4).toNatClampNeg)) ≤ (mem T ((x1 + x5).toNatClampNeg)))))]) (st' := []) (mem' := mem) hS hC 2 rfl ?_
            exact kp23a
          · have kp23b : pm_Ex ro m_X8_bestAmount 85 [.ref T, .int x1, .int x2, .int x3, .int (if ¬ ((mem T ((x1 + x4).toNatClampNeg)) ≤ (mem T ((x1 + x5).toNatClampNeg))) then x5 else x4 : Int32), .int x5, .int (mem T ((x1 + x5).toNatClampNeg)), .int (zb (¬ ((mem T ((x1 + x4).toNatClampNeg)) ≤ (mem T ((x1 + x5).toNatClampNeg)))))] [] mem Q := pm_phi1 (f := fun z0 => pm_Ex ro m_X8_bestAmount 85 [.ref T, .int x1, .int x2, .int x3, .int z0, .int x5, .int (mem T ((x1 + x5).toNatClampNeg)), .int (zb (¬ ((mem T ((x1 + x4).toNatClampNeg)) ≤ (mem T ((x1 + x5).toNatClampNeg)))))] [] mem Q) (if_neg (h)) kp23
            have kp22 : pm_Ex ro m_X8_bestAmount 85 [.ref T, .int x1, .int x2, .int x3, .int (if ¬ ((mem T ((x1 + x4).toNatClampNeg)) ≤ (mem T ((x1 + x5).toNatClampNeg))) then x5 else x4 : Int32), .int x5, .int (mem T ((x1 + x5).toNatClampNeg)), .int (zb (¬ ((mem T ((x1 + x4).toNatClampNeg)) ≤ (mem T ((x1 + x5).toNatClampNeg)))))] [] mem Q := by
              exact kp23b
            refine ex_many (pc' := 78) (ls' := [.ref T, .int x1, .int x2, .int x3, .int x4, .int x5, .int (mem T ((x1 + x5).toNatClampNeg)), .int (zb (¬ ((mem T ((x1 + x4).toNatClampNeg)) ≤ (mem T ((x1 + x5).toNatClampNeg)))))]) (st' := [.int (zb (¬ ((mem T ((x1 + x4).toNatClampNeg)) ≤ (mem T ((x1 + x5).toNatClampNeg)))))]) (mem' := mem) hS hC 1 rfl ?_
            refine ex_br (P := (zb (¬ ((mem T ((x1 + x4).toNatClampNeg)) ≤ (mem T ((x1 + x5).toNatClampNeg))))) = 0) (a := 85) (b := 81) (ls' := [.ref T, .int x1, .int x2, .int x3, .int x4, .int x5, .int (mem T ((x1 + x5).toNatClampNeg)), .int (zb (¬ ((mem T ((x1 + x4).toNatClampNeg)) ≤ (mem T ((x1 + x5).toNatClampNeg)))))]) (st' := []) (mem' := mem) hS hC rfl (fun h => ?_) (fun h => ?_)
            · have kp22a : pm_Ex ro m_X8_bestAmount 85 [.ref T, .int x1, .int x2, .int x3, .int x4, .int x5, .int (mem T ((x1 + x5).toNatClampNeg)), .int (zb (¬ ((mem T ((x1 + x4).toNatClampNeg)) ≤ (mem T ((x1 + x5).toNatClampNeg)))))] [] mem Q := pm_phi1 (f := fun z0 => pm_Ex ro m_X8_bestAmount 85 [.ref T, .int x1, .int x2, .int x3, .int z0, .int x5, .int (mem T ((x1 + x5).toNatClampNeg)), .int (zb (¬ ((mem T ((x1 + x4).toNatClampNeg)) ≤ (mem T ((x1 + x5).toNatClampNeg)))))] [] mem Q) (if_neg (zb0 h)) kp22
              exact kp22a
            · have kp22b : pm_Ex ro m_X8_bestAmount 85 [.ref T, .int x1, .int x2, .int x3, .int x5, .int x5, .int (mem T ((x1 + x5).toNatClampNeg)), .int (zb (¬ ((mem T ((x1 + x4).toNatClampNeg)) ≤ (mem T ((x1 + x5).toNatClampNeg)))))] [] mem Q := pm_phi1 (f := fun z0 => pm_Ex ro m_X8_bestAmount 85 [.ref T, .int x1, .int x2, .int x3, .int z0, .int x5, .int (mem T ((x1 + x5).toNatClampNeg)), .int (zb (¬ ((mem T ((x1 + x4).toNatClampNeg)) ≤ (mem T ((x1 + x5).toNatClampNeg)))))] [] mem Q) (if_pos (zb1 h)) kp22
              refine ex_many (pc' := 85) (ls' := [.ref T, .int x1, .int x2, .int x3, .int x5, .int x5, .int (mem T ((x1 + x5).toNatClampNeg)), .int (zb (¬ ((mem T ((x1 + x4).toNatClampNeg)) ≤ (mem T ((x1 + x5).toNatClampNeg)))))]) (st' := []) (mem' := mem) hS hC 2 rfl ?_
              exact kp22b
        refine ex_br (P := (mem T ((x1 + x4).toNatClampNeg)) ≤ (mem T ((x1 + x5).toNatClampNeg))) (a := 68) (b := 64) (ls' := [.ref T, .int x1, .int x2, .int x3, .int x4, .int x5, .int (mem T ((x1 + x5).toNatClampNeg)), d7]) (st' := []) (mem' := mem) hS hC rfl (fun h => ?_) (fun h => ?_)
        · have kp24a : pm_Ex ro m_X8_bestAmount 69 [.ref T, .int x1, .int x2, .int x3, .int x4, .int x5, .int (mem T ((x1 + x5).toNatClampNeg)), d7] [.int 0] mem Q := pm_phi1 (f := fun z0 => pm_Ex ro m_X8_bestAmount 69 [.ref T, .int x1, .int x2, .int x3, .int x4, .int x5, .int (mem T ((x1 + x5).toNatClampNeg)), d7] [.int z0] mem Q) (zb_npos (h)) kp24
          refine ex_many (pc' := 69) (ls' := [.ref T, .int x1, .int x2, .int x3, .int x4, .int x5, .int (mem T ((x1 + x5).toNatClampNeg)), d7]) (st' := [.int 0]) (mem' := mem) hS hC 1 rfl ?_
          exact kp24a
        · have kp24b : pm_Ex ro m_X8_bestAmount 69 [.ref T, .int x1, .int x2, .int x3, .int x4, .int x5, .int (mem T ((x1 + x5).toNatClampNeg)), d7] [.int 1] mem Q := pm_phi1 (f := fun z0 => pm_Ex ro m_X8_bestAmount 69 [.ref T, .int x1, .int x2, .int x3, .int x4, .int x5, .int (mem T ((x1 + x5).toNatClampNeg)), d7] [.int z0] mem Q) (zb_nneg (h)) kp24
          refine ex_many (pc' := 69) (ls' := [.ref T, .int x1, .int x2, .int x3, .int x4, .int x5, .int (mem T ((x1 + x5).toNatClampNeg)), d7]) (st' := [.int 1]) (mem' := mem) hS hC 2 rfl ?_
          exact kp24b
      · replace k := k.2 (h)
        refine ex_many (pc' := 41) (ls' := [.ref T, .int x1, .int x2, .int x3, .int x4, .int x5, .int (mem T ((x1 + x5).toNatClampNeg)), d7]) (st' := [.int (x1 + x4), .ref T, .int (mem T ((x1 + x5).toNatClampNeg))]) (mem' := mem) hS hC 5 rfl ?_
        refine ex_aldS hS hC rfl hT k.1 ?_
        replace k := k.2
        show pm_Ex ro m_X8_bestAmount 42 [.ref T, .int x1, .int x2, .int x3, .int x4, .int x5, .int (mem T ((x1 + x5).toNatClampNeg)), d7] [.int (mem T ((x1 + x4).toNatClampNeg)), .int (mem T ((x1 + x5).toNatClampNeg))] mem Q
        have kp27 : pm_Ex ro m_X8_bestAmount 69 [.ref T, .int x1, .int x2, .int x3, .int x4, .int x5, .int (mem T ((x1 + x5).toNatClampNeg)), d7] [.int (zb (¬ ((mem T ((x1 + x5).toNatClampNeg)) ≤ (mem T ((x1 + x4).toNatClampNeg)))))] mem Q := by
          refine ex_many (pc' := 73) (ls' := [.ref T, .int x1, .int x2, .int x3, .int x4, .int x5, .int (mem T ((x1 + x5).toNatClampNeg)), .int (zb (¬ ((mem T ((x1 + x5).toNatClampNeg)) ≤ (mem T ((x1 + x4).toNatClampNeg)))))]) (st' := [.int x4]) (mem' := mem) hS hC 2 rfl ?_
          have kp26 : pm_Ex ro m_X8_bestAmount 85 [.ref T, .int x1, .int x2, .int x3, .int (if x4 = 0 then x5 else (if ¬ ((mem T ((x1 + x5).toNatClampNeg)) ≤ (mem T ((x1 + x4).toNatClampNeg))) then x5 else x4 : Int32) : Int32), .int x5, .int (mem T ((x1 + x5).toNatClampNeg)), .int (zb (¬ ((mem T ((x1 + x5).toNatClampNeg)) ≤ (mem T ((x1 + x4).toNatClampNeg)))))] [] mem Q := by
            refine ex_many (pc' := 6) (ls' := [.ref T, .int x1, .int x2, .int x3, .int (if x4 = 0 then x5 else (if ¬ ((mem T ((x1 + x5).toNatClampNeg)) ≤ (mem T ((x1 + x4).toNatClampNeg))) then x5 else x4 : Int32) : Int32), .int (x5 + 1), .int (mem T ((x1 + x5).toNatClampNeg)), .int (zb (¬ ((mem T ((x1 + x5).toNatClampNeg)) ≤ (mem T ((x1 + x4).toNatClampNeg)))))]) (st' := []) (mem' := mem) hS hC 2 rfl ?_
            exact k
          refine ex_br (P := x4 = 0) (a := 81) (b := 76) (ls' := [.ref T, .int x1, .int x2, .int x3, .int x4, .int x5, .int (mem T ((x1 + x5).toNatClampNeg)), .int (zb (¬ ((mem T ((x1 + x5).toNatClampNeg)) ≤ (mem T ((x1 + x4).toNatClampNeg)))))]) (st' := []) (mem' := mem) hS hC rfl (fun h => ?_) (fun h => ?_)
          · have kp26a : pm_Ex ro m_X8_bestAmount 85 [.ref T, .int x1, .int x2, .int x3, .int x5, .int x5, .int (mem T ((x1 + x5).toNatClampNeg)), .int (zb (¬ ((mem T ((x1 + x5).toNatClampNeg)) ≤ (mem T ((x1 + x4).toNatClampNeg)))))] [] mem Q := pm_phi1 (f := fun z0 => pm_Ex ro m_X8_bestAmount 85 [.ref T, .int x1, .int x2, .int x3, .int z0, .int x5, .int (mem T ((x1 + x5).toNatClampNeg)), .int (zb (¬ ((mem T ((x1 + x5).toNatClampNeg)) ≤ (mem T ((x1 + x4).toNatClampNeg)))))] [] mem Q) (if_pos (h)) kp26
            refine ex_many (pc' := 85) (ls' := [.ref T, .int x1, .int x2, .int x3, .int x5, .int x5, .int (mem T ((x1 + x5).toNatClampNeg)), .int (zb (¬ ((mem T ((x1 + x5).toNatClampNeg)) ≤ (mem T ((x1 + x4).toNatClampNeg)))))]) (st' := []) (mem' := mem) hS hC 2 rfl ?_
            exact kp26a
          · have kp26b : pm_Ex ro m_X8_bestAmount 85 [.ref T, .int x1, .int x2, .int x3, .int (if ¬ ((mem T ((x1 + x5).toNatClampNeg)) ≤ (mem T ((x1 + x4).toNatClampNeg))) then x5 else x4 : Int32), .int x5, .int (mem T ((x1 + x5).toNatClampNeg)), .int (zb (¬ ((mem T ((x1 + x5).toNatClampNeg)) ≤ (mem T ((x1 + x4).toNatClampNeg)))))] [] mem Q := pm_phi1 (f := fun z0 => pm_Ex ro m_X8_bestAmount 85 [.ref T, .int x1, .int x2, .int x3, .int z0, .int x5, .int (mem T ((x1 + x5).toNatClampNeg)), .int (zb (¬ ((mem T ((x1 + x5).toNatClampNeg)) ≤ (mem T ((x1 + x4).toNatClampNeg)))))] [] mem Q) (if_neg (h)) kp26
            have kp25 : pm_Ex ro m_X8_bestAmount 85 [.ref T, .int x1, .int x2, .int x3, .int (if ¬ ((mem T ((x1 + x5).toNatClampNeg)) ≤ (mem T ((x1 + x4).toNatClampNeg))) then x5 else x4 : Int32), .int x5, .int (mem T ((x1 + x5).toNatClampNeg)), .int (zb (¬ ((mem T ((x1 + x5).toNatClampNeg)) ≤ (mem T ((x1 + x4).toNatClampNeg)))))] [] mem Q := by
              exact kp26b
            refine ex_many (pc' := 78) (ls' := [.ref T, .int x1, .int x2, .int x3, .int x4, .int x5, .int (mem T ((x1 + x5).toNatClampNeg)), .int (zb (¬ ((mem T ((x1 + x5).toNatClampNeg)) ≤ (mem T ((x1 + x4).toNatClampNeg)))))]) (st' := [.int (zb (¬ ((mem T ((x1 + x5).toNatClampNeg)) ≤ (mem T ((x1 + x4).toNatClampNeg)))))]) (mem' := mem) hS hC 1 rfl ?_
            refine ex_br (P := (zb (¬ ((mem T ((x1 + x5).toNatClampNeg)) ≤ (mem T ((x1 + x4).toNatClampNeg))))) = 0) (a := 85) (b := 81) (ls' := [.ref T, .int x1, .int x2, .int x3, .int x4, .int x5, .int (mem T ((x1 + x5).toNatClampNeg)), .int (zb (¬ ((mem T ((x1 + x5).toNatClampNeg)) ≤ (mem T ((x1 + x4).toNatClampNeg)))))]) (st' := []) (mem' := mem) hS hC rfl (fun h => ?_) (fun h => ?_)
            · have kp25a : pm_Ex ro m_X8_bestAmount 85 [.ref T, .int x1, .int x2, .int x3, .int x4, .int x5, .int (mem T ((x1 + x5).toNatClampNeg)), .int (zb (¬ ((mem T ((x1 + x5).toNatClampNeg)) ≤ (mem T ((x1 + x4).toNatClampNeg)))))] [] mem Q := pm_phi1 (f := fun z0 => pm_Ex ro m_X8_bestAmount 85 [.ref T, .int x1, .int x2, .int x3, .int z0, .int x5, .int (mem T ((x1 + x5).toNatClampNeg)), .int (zb (¬ ((mem T ((x1 + x5).toNatClampNeg)) ≤ (mem T ((x1 + x4).toNatClampNeg)))))] [] mem Q) (if_neg (zb0 h)) kp25
              exact kp25a
            · have kp25b : pm_Ex ro m_X8_bestAmount 85 [.ref T, .int x1, .int x2, .int x3, .int x5, .int x5, .int (mem T ((x1 + x5).toNatClampNeg)), .int (zb (¬ ((mem T ((x1 + x5).toNatClampNeg)) ≤ (mem T ((x1 + x4).toNatClampNeg)))))] [] mem Q := pm_phi1 (f := fun z0 => pm_Ex ro m_X8_bestAmount 85 [.ref T, .int x1, .int x2, .int x3, .int z0, .int x5, .int (mem T ((x1 + x5).toNatClampNeg)), .int (zb (¬ ((mem T ((x1 + x5).toNatClampNeg)) ≤ (mem T ((x1 + x4).toNatClampNeg)))))] [] mem Q) (if_pos (zb1 h)) kp25
              refine ex_many (pc' := 85) (ls' := [.ref T, .int x1, .int x2, .int x3, .int x5, .int x5, .int (mem T ((x1 + x5).toNatClampNeg)), .int (zb (¬ ((mem T ((x1 + x5).toNatClampNeg)) ≤ (mem T ((x1 + x4).toNatClampNeg)))))]) (st' := []) (mem' := mem) hS hC 2 rfl ?_
              exact kp25b
        refine ex_br (P := (mem T ((x1 + x5).toNatClampNeg)) ≤ (mem T ((x1 + x4).toNatClampNeg))) (a := 49) (b := 45) (ls' := [.ref T, .int x1, .int x2, .int x3, .int x4, .int x5, .int (mem T ((x1 + x5).toNatClampNeg)), d7]) (st' := []) (mem' := mem) hS hC rfl (fun h => ?_) (fun h => ?_)
        · have kp27a : pm_Ex ro m_X8_bestAmount 69 [.ref T, .int x1, .int x2, .int x3, .int x4, .int x5, .int (mem T ((x1 + x5).toNatClampNeg)), d7] [.int 0] mem Q := pm_phi1 (f := fun z0 => pm_Ex ro m_X8_bestAmount 69 [.ref T, .int x1, .int x2, .int x3, .int x4, .int x5, .int (mem T ((x1 + x5).toNatClampNeg)), d7] [.int z0] mem Q) (zb_npos (h)) kp27
          refine ex_many (pc' := 69) (ls' := [.ref T, .int x1, .int x2, .int x3, .int x4, .int x5, .int (mem T ((x1 + x5).toNatClampNeg)), d7]) (st' := [.int 0]) (mem' := mem) hS hC 2 rfl ?_
          exact kp27a
        · have kp27b : pm_Ex ro m_X8_bestAmount 69 [.ref T, .int x1, .int x2, .int x3, .int x4, .int x5, .int (mem T ((x1 + x5).toNatClampNeg)), d7] [.int 1] mem Q := pm_phi1 (f := fun z0 => pm_Ex ro m_X8_bestAmount 69 [.ref T, .int x1, .int x2, .int x3, .int x4, .int x5, .int (mem T ((x1 + x5).toNatClampNeg)), d7] [.int z0] mem Q) (zb_nneg (h)) kp27
          refine ex_many (pc' := 69) (ls' := [.ref T, .int x1, .int x2, .int x3, .int x4, .int x5, .int (mem T ((x1 + x5).toNatClampNeg)), d7]) (st' := [.int 1]) (mem' := mem) hS hC 2 rfl ?_
          exact kp27b

set_option maxRecDepth 20000 in
theorem bk_X8_outcomeFrom_0 {ro : pm_RO} {Q : Option Value → pm_M → Prop} {mem : pm_M} {a1 : Int32} (k : (pm_inb a1 209 = true) ∧ (Q (some (.int (mem 21 a1.toNatClampNeg))) mem)) : pm_Ex ro m_X8_outcomeFrom 0 [.ref 20, .int a1] [] mem Q := by
  have hS : pm_sig[m_X8_outcomeFrom]? = some _ := rfl
  have hC : pm_cod[m_X8_outcomeFrom]? = some _ := rfl
  refine ex_many (pc' := 5) (ls' := [.ref 20, .int a1]) (st' := [.int a1, .ref 21]) (mem' := mem) hS hC 3 rfl ?_
  refine ex_grd (b := pm_inb a1 209) (pc' := 6) (ls' := [.ref 20, .int a1]) (st' := [.int (mem 21 a1.toNatClampNeg)]) (mem' := mem) hS hC rfl k.1 ?_
  replace k := k.2
  exact ex_ret (v := (some (.int (mem 21 a1.toNatClampNeg)))) hS hC rfl rfl rfl k

set_option maxRecDepth 20000 in
theorem bk_X8_playDownTo_0 {ro : pm_RO} {Q : Option Value → pm_M → Prop} {mem : pm_M} {a1 a2 a3 : Int32} (k : pm_Ex ro m_X8_playDownTo 3 [.ref 20, .int a1, .int a2, .int a3, .int a3] [] mem Q) : pm_Ex ro m_X8_playDownTo 0 [.ref 20, .int a1, .int a2, .int a3, .null] [] mem Q := by
  have hS : pm_sig[m_X8_playDownTo]? = some _ := rfl
  have hC : pm_cod[m_X8_playDownTo]? = some _ := rfl
  refine ex_many (pc' := 3) (ls' := [.ref 20, .int a1, .int a2, .int a3, .int a3]) (st' := []) (mem' := mem) hS hC 2 rfl ?_
  exact k

set_option maxRecDepth 20000 in
theorem bk_X8_playDownTo_3 {ro : pm_RO} {Q : Option Value → pm_M → Prop} {mem : pm_M} {x1 x2 x3 x4 : Int32} (k : ((x3 + 9) ≤ x4 → pm_Ex ro m_X8_playDownTo 53 [.ref 20, .int x1, .int x2, .int x3, .int (x3 - 1)] [] mem Q) ∧ (¬ ((x3 + 9) ≤ x4) → pm_Ex ro m_X2_paidFor 0 [.ref 1, .int x4, .null, .null, .null, .null, .null, .null] [] mem (fun v m => pm_Ex ro m_X8_playDownTo 27 [.ref 20, .int x1, .int x2, .int x3, .int x4] (v.toList ++ [.int x4, .ref 21]) m Q))) : pm_Ex ro m_X8_playDownTo 3 [.ref 20, .int x1, .int x2, .int x3, .int x4] [] mem Q := by
  have hS : pm_sig[m_X8_playDownTo]? = some _ := rfl
  have hC : pm_cod[m_X8_playDownTo]? = some _ := rfl
  refine ex_many (pc' := 9) (ls' := [.ref 20, .int x1, .int x2, .int x3, .int x4]) (st' := [.int (x3 + 9), .int x4]) (mem' := mem) hS hC 4 rfl ?_
  refine ex_br (P := (x3 + 9) ≤ x4) (a := 48) (b := 12) (ls' := [.ref 20, .int x1, .int x2, .int x3, .int x4]) (st' := []) (mem' := mem) hS hC rfl (fun h => ?_) (fun h => ?_)
  · replace k := k.1 (h)
    refine ex_many (pc' := 53) (ls' := [.ref 20, .int x1, .int x2, .int x3, .int (x3 - 1)]) (st' := []) (mem' := mem) hS hC 4 rfl ?_
    exact k
  · replace k := k.2 (h)
    refine ex_many (pc' := 24) (ls' := [.ref 20, .int x1, .int x2, .int x3, .int x4]) (st' := [.int x4, .ref 1, .int x4, .ref 21]) (mem' := mem) hS hC 6 rfl ?_
    refine ex_call (y' := m_X2_paidFor) (rest := [.int x4, .ref 21]) (ent := [.ref 1, .int x4, .null, .null, .null, .null, .null, .null]) hS hC rfl rfl rfl rfl rfl rfl ?_
    exact k

set_option maxRecDepth 20000 in
theorem bk_X8_playDownTo_53 {ro : pm_RO} {Q : Option Value → pm_M → Prop} {mem : pm_M} {x1 x2 x3 x4 : Int32} (k : (x4 < x1 → Q none mem) ∧ (¬ (x4 < x1) → pm_Ex ro m_X8_bestAmount 0 [.ref 22, .int x4, .int x2, .int 0, .null, .null, .null, .null] [] mem (fun v m => pm_Ex ro m_X8_playDownTo 82 [.ref 20, .int x1, .int x2, .int x3, .int x4] (v.toList ++ [.int x4, .ref 22, .int x4, .ref 21]) m Q))) : pm_Ex ro m_X8_playDownTo 53 [.ref 20, .int x1, .int x2, .int x3, .int x4] [] mem Q := by
  have hS : pm_sig[m_X8_playDownTo]? = some _ := rfl
  have hC : pm_cod[m_X8_playDownTo]? = some _ := rfl
  refine ex_many (pc' := 56) (ls' := [.ref 20, .int x1, .int x2, .int x3, .int x4]) (st' := [.int x1, .int x4]) (mem' := mem) hS hC 2 rfl ?_
  refine ex_br (P := x4 < x1) (a := 117) (b := 59) (ls' := [.ref 20, .int x1, .int x2, .int x3, .int x4]) (st' := []) (mem' := mem) hS hC rfl (fun h => ?_) (fun h => ?_)
  · replace k := k.1 (h)
    exact ex_ret (v := none) hS hC rfl rfl rfl k
  · replace k := k.2 (h)
    refine ex_many (pc' := 79) (ls' := [.ref 20, .int x1, .int x2, .int x3, .int x4]) (st' := [.int 0, .int x2, .int x4, .ref 22, .int x4, .ref 22, .int x4, .ref 21]) (mem' := mem) hS hC 11 rfl ?_
    refine ex_call (y' := m_X8_bestAmount) (rest := [.int x4, .ref 22, .int x4, .ref 21]) (ent := [.ref 22, .int x4, .int x2, .int 0, .null, .null, .null, .null]) hS hC rfl rfl rfl rfl rfl rfl ?_
    exact k

set_option maxRecDepth 20000 in
theorem bk_X8_playDownTo_27 {ro : pm_RO} {Q : Option Value → pm_M → Prop} {mem : pm_M} {x1 x2 x3 x4 s0 s1 : Int32} (k : (pm_inb s1 209 = true) ∧ ((pm_inb x4 209 = true) ∧ ((pm_inb x4 209 = true) ∧ (pm_Ex ro m_X8_playDownTo 3 [.ref 20, .int x1, .int x2, .int x3, .int (x4 + 1)] [] (pm_up (pm_up mem 21 s1.toNatClampNeg s0) 22 x4.toNatClampNeg ((pm_up mem 21 s1.toNatClampNeg s0) 21 x4.toNatClampNeg)) Q)))) : pm_Ex ro m_X8_playDownTo 27 [.ref 20, .int x1, .int x2, .int x3, .int x4] [.int s0, .int s1, .ref 21] mem Q := by
  have hS : pm_sig[m_X8_playDownTo]? = some _ := rfl
  have hC : pm_cod[m_X8_playDownTo]? = some _ := rfl
  refine ex_grd (b := pm_inb s1 209) (pc' := 28) (ls' := [.ref 20, .int x1, .int x2, .int x3, .int x4]) (st' := []) (mem' := pm_up mem 21 s1.toNatClampNeg s0) hS hC rfl k.1 ?_
  replace k := k.2
  refine ex_many (pc' := 40) (ls' := [.ref 20, .int x1, .int x2, .int x3, .int x4]) (st' := [.int x4, .ref 21, .int x4, .ref 22]) (mem' := pm_up mem 21 s1.toNatClampNeg s0) hS hC 6 rfl ?_
  refine ex_grd (b := pm_inb x4 209) (pc' := 41) (ls' := [.ref 20, .int x1, .int x2, .int x3, .int x4]) (st' := [.int ((pm_up mem 21 s1.toNatClampNeg s0) 21 x4.toNatClampNeg), .int x4, .ref 22]) (mem' := pm_up mem 21 s1.toNatClampNeg s0) hS hC rfl k.1 ?_
  replace k := k.2
  refine ex_grd (b := pm_inb x4 209) (pc' := 42) (ls' := [.ref 20, .int x1, .int x2, .int x3, .int x4]) (st' := []) (mem' := pm_up (pm_up mem 21 s1.toNatClampNeg s0) 22 x4.toNatClampNeg ((pm_up mem 21 s1.toNatClampNeg s0) 21 x4.toNatClampNeg)) hS hC rfl k.1 ?_
  replace k := k.2
  refine ex_many (pc' := 3) (ls' := [.ref 20, .int x1, .int x2, .int x3, .int (x4 + 1)]) (st' := []) (mem' := pm_up (pm_up mem 21 s1.toNatClampNeg s0) 22 x4.toNatClampNeg ((pm_up mem 21 s1.toNatClampNeg s0) 21 x4.toNatClampNeg)) hS hC 2 rfl ?_
  exact k

set_option maxRecDepth 20000 in
theorem bk_X8_playDownTo_82 {ro : pm_RO} {Q : Option Value → pm_M → Prop} {mem : pm_M} {x1 x2 x3 x4 s0 s1 s3 : Int32} (k : (pm_inb (s1 + s0) 209 = true) ∧ ((pm_inb s3 209 = true) ∧ (pm_Ex ro m_X8_bestAmount 0 [.ref 21, .int x4, .int x2, .int 1, .null, .null, .null, .null] [] (pm_up mem 21 s3.toNatClampNeg (mem 22 ((s1 + s0).toNatClampNeg))) (fun v m => pm_Ex ro m_X8_playDownTo 108 [.ref 20, .int x1, .int x2, .int x3, .int x4] (v.toList ++ [.int x4, .ref 21, .int x4, .ref 22]) m Q)))) : pm_Ex ro m_X8_playDownTo 82 [.ref 20, .int x1, .int x2, .int x3, .int x4] [.int s0, .int s1, .ref 22, .int s3, .ref 21] mem Q := by
  have hS : pm_sig[m_X8_playDownTo]? = some _ := rfl
  have hC : pm_cod[m_X8_playDownTo]? = some _ := rfl
  refine ex_many (pc' := 83) (ls' := [.ref 20, .int x1, .int x2, .int x3, .int x4]) (st' := [.int (s1 + s0), .ref 22, .int s3, .ref 21]) (mem' := mem) hS hC 1 rfl ?_
  refine ex_grd (b := pm_inb (s1 + s0) 209) (pc' := 84) (ls' := [.ref 20, .int x1, .int x2, .int x3, .int x4]) (st' := [.int (mem 22 ((s1 + s0).toNatClampNeg)), .int s3, .ref 21]) (mem' := mem) hS hC rfl k.1 ?_
  replace k := k.2
  refine ex_grd (b := pm_inb s3 209) (pc' := 85) (ls' := [.ref 20, .int x1, .int x2, .int x3, .int x4]) (st' := []) (mem' := pm_up mem 21 s3.toNatClampNeg (mem 22 ((s1 + s0).toNatClampNeg))) hS hC rfl k.1 ?_
  replace k := k.2
  refine ex_many (pc' := 105) (ls' := [.ref 20, .int x1, .int x2, .int x3, .int x4]) (st' := [.int 1, .int x2, .int x4, .ref 21, .int x4, .ref 21, .int x4, .ref 22]) (mem' := pm_up mem 21 s3.toNatClampNeg (mem 22 ((s1 + s0).toNatClampNeg))) hS hC 11 rfl ?_
  refine ex_call (y' := m_X8_bestAmount) (rest := [.int x4, .ref 21, .int x4, .ref 22]) (ent := [.ref 21, .int x4, .int x2, .int 1, .null, .null, .null, .null]) hS hC rfl rfl rfl rfl rfl rfl ?_
  exact k

set_option maxRecDepth 20000 in
theorem bk_X8_playDownTo_108 {ro : pm_RO} {Q : Option Value → pm_M → Prop} {mem : pm_M} {x1 x2 x3 x4 s0 s1 s3 : Int32} (k : (pm_inb (s1 + s0) 209 = true) ∧ ((pm_inb s3 209 = true) ∧ (pm_Ex ro m_X8_playDownTo 53 [.ref 20, .int x1, .int x2, .int x3, .int (x4 + (-1))] [] (pm_up mem 22 s3.toNatClampNeg (mem 21 ((s1 + s0).toNatClampNeg))) Q))) : pm_Ex ro m_X8_playDownTo 108 [.ref 20, .int x1, .int x2, .int x3, .int x4] [.int s0, .int s1, .ref 21, .int s3, .ref 22] mem Q := by
  have hS : pm_sig[m_X8_playDownTo]? = some _ := rfl
  have hC : pm_cod[m_X8_playDownTo]? = some _ := rfl
  refine ex_many (pc' := 109) (ls' := [.ref 20, .int x1, .int x2, .int x3, .int x4]) (st' := [.int (s1 + s0), .ref 21, .int s3, .ref 22]) (mem' := mem) hS hC 1 rfl ?_
  refine ex_grd (b := pm_inb (s1 + s0) 209) (pc' := 110) (ls' := [.ref 20, .int x1, .int x2, .int x3, .int x4]) (st' := [.int (mem 21 ((s1 + s0).toNatClampNeg)), .int s3, .ref 22]) (mem' := mem) hS hC rfl k.1 ?_
  replace k := k.2
  refine ex_grd (b := pm_inb s3 209) (pc' := 111) (ls' := [.ref 20, .int x1, .int x2, .int x3, .int x4]) (st' := []) (mem' := pm_up mem 22 s3.toNatClampNeg (mem 21 ((s1 + s0).toNatClampNeg))) hS hC rfl k.1 ?_
  replace k := k.2
  refine ex_many (pc' := 53) (ls' := [.ref 20, .int x1, .int x2, .int x3, .int (x4 + (-1))]) (st' := []) (mem' := pm_up mem 22 s3.toNatClampNeg (mem 21 ((s1 + s0).toNatClampNeg))) hS hC 2 rfl ?_
  exact k

set_option maxRecDepth 20000 in
theorem bk_X8_firstAmount_0 {ro : pm_RO} {Q : Option Value → pm_M → Prop} {mem : pm_M} {a1 a2 : Int32} (k : pm_Ex ro m_X8_bestAmount 0 [.ref 22, .int a1, .int a2, .int 0, .null, .null, .null, .null] [] mem (fun v m => pm_Ex ro m_X8_firstAmount 10 [.ref 20, .int a1, .int a2] (v.toList ++ []) m Q)) : pm_Ex ro m_X8_firstAmount 0 [.ref 20, .int a1, .int a2] [] mem Q := by
  have hS : pm_sig[m_X8_firstAmount]? = some _ := rfl
  have hC : pm_cod[m_X8_firstAmount]? = some _ := rfl
  refine ex_many (pc' := 7) (ls' := [.ref 20, .int a1, .int a2]) (st' := [.int 0, .int a2, .int a1, .ref 22]) (mem' := mem) hS hC 5 rfl ?_
  refine ex_call (y' := m_X8_bestAmount) (rest := []) (ent := [.ref 22, .int a1, .int a2, .int 0, .null, .null, .null, .null]) hS hC rfl rfl rfl rfl rfl rfl ?_
  exact k

set_option maxRecDepth 20000 in
theorem bk_X8_firstAmount_10 {ro : pm_RO} {Q : Option Value → pm_M → Prop} {mem : pm_M} {x1 x2 s0 : Int32} (k : Q (some (.int s0)) mem) : pm_Ex ro m_X8_firstAmount 10 [.ref 20, .int x1, .int x2] [.int s0] mem Q := by
  have hS : pm_sig[m_X8_firstAmount]? = some _ := rfl
  have hC : pm_cod[m_X8_firstAmount]? = some _ := rfl
  exact ex_ret (v := (some (.int s0))) hS hC rfl rfl rfl k

