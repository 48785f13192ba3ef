set_option maxRecDepth 20000 in
theorem bk_L_law_16 {ro : pm_RO} {Q : Option Value → pm_M → Prop} {mem : pm_M} (k : pm_Ex ro m_L_law 18 [.ref 52, .ref 0, .ref 33, .int 0] [] mem Q) : pm_Ex ro m_L_law 16 [.ref 52, .ref 0, .ref 33, .null] [] mem Q := by
  have hS : pm_sig[m_L_law]? = some _ := rfl
  have hC : pm_cod[m_L_law]? = some _ := rfl
  refine ex_many (pc' := 18) (ls' := [.ref 52, .ref 0, .ref 33, .int 0]) (st' := []) (mem' := mem) hS hC 2 rfl ?_
  exact k

set_option maxRecDepth 20000 in
theorem bk_L_law_18 {ro : pm_RO} {Q : Option Value → pm_M → Prop} {mem : pm_M} {L : Nat} {rf52 : Nat → Int32} (hr52 : ro 52 = some (L, rf52)) {x3 : Int32} (k : (((Int32.ofNat L) - 6) < x3 → Q (some (.int 1)) mem) ∧ (¬ (((Int32.ofNat L) - 6) < x3) → (pm_inb x3 L = true) ∧ (pm_Ex ro m_L_law 33 [.ref 52, .ref 0, .ref 33, .int x3] [.int ((rf52 x3.toNatClampNeg) &&& 31)] mem Q))) : pm_Ex ro m_L_law 18 [.ref 52, .ref 0, .ref 33, .int x3] [] mem Q := by
  have hS : pm_sig[m_L_law]? = some _ := rfl
  have hC : pm_cod[m_L_law]? = some _ := rfl
  refine ex_many (pc' := 20) (ls' := [.ref 52, .ref 0, .ref 33, .int x3]) (st' := [.ref 52, .int x3]) (mem' := mem) hS hC 2 rfl ?_
  refine ex_alnR hS hC rfl rfl hr52 ?_
  show pm_Ex ro m_L_law 21 [.ref 52, .ref 0, .ref 33, .int x3] [.int (Int32.ofNat L), .int x3] mem Q
  refine ex_many (pc' := 24) (ls' := [.ref 52, .ref 0, .ref 33, .int x3]) (st' := [.int ((Int32.ofNat L) - 6), .int x3]) (mem' := mem) hS hC 2 rfl ?_
  refine ex_br (P := ((Int32.ofNat L) - 6) < x3) (a := 1035) (b := 27) (ls' := [.ref 52, .ref 0, .ref 33, .int x3]) (st' := []) (mem' := mem) hS hC rfl (fun h => ?_) (fun h => ?_)
  · replace k := k.1 (h)
    refine ex_many (pc' := 1036) (ls' := [.ref 52, .ref 0, .ref 33, .int x3]) (st' := [.int 1]) (mem' := mem) hS hC 1 rfl ?_
    exact ex_ret (v := (some (.int 1))) hS hC rfl rfl rfl k
  · replace k := k.2 (h)
    refine ex_many (pc' := 29) (ls' := [.ref 52, .ref 0, .ref 33, .int x3]) (st' := [.int x3, .ref 52]) (mem' := mem) hS hC 2 rfl ?_
    refine ex_aldR hS hC rfl rfl hr52 k.1 ?_
    replace k := k.2
    show pm_Ex ro m_L_law 30 [.ref 52, .ref 0, .ref 33, .int x3] [.int (rf52 x3.toNatClampNeg)] mem Q
    refine ex_many (pc' := 33) (ls' := [.ref 52, .ref 0, .ref 33, .int x3]) (st' := [.int ((rf52 x3.toNatClampNeg) &&& 31)]) (mem' := mem) hS hC 2 rfl ?_
    exact k

set_option maxRecDepth 20000 in
theorem bk_L_law_33_c0 {ro : pm_RO} {Q : Option Value → pm_M → Prop} {mem : pm_M} {L : Nat} {rf52 : Nat → Int32} (hr52 : ro 52 = some (L, rf52)) {x3 : Int32} (k : (pm_inb (x3 + 1) L = true) ∧ (pm_Ex ro m_X9_type 0 [.ref 0, .int (rf52 (x3 + 1).toNatClampNeg)] [] mem (fun v m => pm_Ex ro m_L_law 165 [.ref 52, .ref 0, .ref 33, .int x3] (v.toList ++ []) m Q))) : pm_Ex ro m_L_law 33 [.ref 52, .ref 0, .ref 33, .int x3] [.int 0] mem Q := by
  have hS : pm_sig[m_L_law]? = some _ := rfl
  have hC : pm_cod[m_L_law]? = some _ := rfl
  refine ex_one (pc' := 156) (ls' := [.ref 52, .ref 0, .ref 33, .int x3]) (st' := []) (mem' := mem) hS hC rfl ?_
  refine ex_many (pc' := 161) (ls' := [.ref 52, .ref 0, .ref 33, .int x3]) (st' := [.int (x3 + 1), .ref 52, .ref 0]) (mem' := mem) hS hC 5 rfl ?_
  refine ex_aldR hS hC rfl rfl hr52 k.1 ?_
  replace k := k.2
  show pm_Ex ro m_L_law 162 [.ref 52, .ref 0, .ref 33, .int x3] [.int (rf52 (x3 + 1).toNatClampNeg), .ref 0] mem Q
  refine ex_call (y' := m_X9_type) (rest := []) (ent := [.ref 0, .int (rf52 (x3 + 1).toNatClampNeg)]) hS hC rfl rfl rfl rfl rfl rfl ?_
  exact k

set_option maxRecDepth 20000 in
theorem bk_L_law_33_c1 {ro : pm_RO} {Q : Option Value → pm_M → Prop} {mem : pm_M} {x3 : Int32} (k : pm_Ex ro m_X9_wipe 0 [.ref 0, .null] [] mem (fun v m => pm_Ex ro m_L_law 183 [.ref 52, .ref 0, .ref 33, .int x3] (v.toList ++ []) m Q)) : pm_Ex ro m_L_law 33 [.ref 52, .ref 0, .ref 33, .int x3] [.int 1] mem Q := by
  have hS : pm_sig[m_L_law]? = some _ := rfl
  have hC : pm_cod[m_L_law]? = some _ := rfl
  refine ex_one (pc' := 179) (ls' := [.ref 52, .ref 0, .ref 33, .int x3]) (st' := []) (mem' := mem) hS hC rfl ?_
  refine ex_many (pc' := 180) (ls' := [.ref 52, .ref 0, .ref 33, .int x3]) (st' := [.ref 0]) (mem' := mem) hS hC 1 rfl ?_
  refine ex_call (y' := m_X9_wipe) (rest := []) (ent := [.ref 0, .null]) hS hC rfl rfl rfl rfl rfl rfl ?_
  exact k

set_option maxRecDepth 20000 in
theorem bk_L_law_33_c2 {ro : pm_RO} {Q : Option Value → pm_M → Prop} {mem : pm_M} {x3 : Int32} (k : pm_Ex ro m_X9_fault 0 [.ref 0] [] mem (fun v m => pm_Ex ro m_L_law 196 [.ref 52, .ref 0, .ref 33, .int x3] (v.toList ++ []) m Q)) : pm_Ex ro m_L_law 33 [.ref 52, .ref 0, .ref 33, .int x3] [.int 2] mem Q := by
  have hS : pm_sig[m_L_law]? = some _ := rfl
  have hC : pm_cod[m_L_law]? = some _ := rfl
  refine ex_one (pc' := 192) (ls' := [.ref 52, .ref 0, .ref 33, .int x3]) (st' := []) (mem' := mem) hS hC rfl ?_
  refine ex_many (pc' := 193) (ls' := [.ref 52, .ref 0, .ref 33, .int x3]) (st' := [.ref 0]) (mem' := mem) hS hC 1 rfl ?_
  refine ex_call (y' := m_X9_fault) (rest := []) (ent := [.ref 0]) hS hC rfl rfl rfl rfl rfl rfl ?_
  exact k

set_option maxRecDepth 20000 in
theorem bk_L_law_33_c3 {ro : pm_RO} {Q : Option Value → pm_M → Prop} {mem : pm_M} {L : Nat} {rf52 : Nat → Int32} (hr52 : ro 52 = some (L, rf52)) {x3 : Int32} (k : (pm_inb (x3 + 1) L = true) ∧ ((pm_inb (x3 + 2) L = true) ∧ (pm_Ex ro m_X9_good 0 [.ref 0, .int (rf52 (x3 + 1).toNatClampNeg), .int (rf52 (x3 + 2).toNatClampNeg)] [] mem (fun v m => pm_Ex ro m_L_law 219 [.ref 52, .ref 0, .ref 33, .int x3] (v.toList ++ []) m Q)))) : pm_Ex ro m_L_law 33 [.ref 52, .ref 0, .ref 33, .int x3] [.int 3] mem Q := by
  have hS : pm_sig[m_L_law]? = some _ := rfl
  have hC : pm_cod[m_L_law]? = some _ := rfl
  refine ex_one (pc' := 205) (ls' := [.ref 52, .ref 0, .ref 33, .int x3]) (st' := []) (mem' := mem) hS hC rfl ?_
  refine ex_many (pc' := 210) (ls' := [.ref 52, .ref 0, .ref 33, .int x3]) (st' := [.int (x3 + 1), .ref 52, .ref 0]) (mem' := mem) hS hC 5 rfl ?_
  refine ex_aldR hS hC rfl rfl hr52 k.1 ?_
  replace k := k.2
  show pm_Ex ro m_L_law 211 [.ref 52, .ref 0, .ref 33, .int x3] [.int (rf52 (x3 + 1).toNatClampNeg), .ref 0] mem Q
  refine ex_many (pc' := 215) (ls' := [.ref 52, .ref 0, .ref 33, .int x3]) (st' := [.int (x3 + 2), .ref 52, .int (rf52 (x3 + 1).toNatClampNeg), .ref 0]) (mem' := mem) hS hC 4 rfl ?_
  refine ex_aldR hS hC rfl rfl hr52 k.1 ?_
  replace k := k.2
  show pm_Ex ro m_L_law 216 [.ref 52, .ref 0, .ref 33, .int x3] [.int (rf52 (x3 + 2).toNatClampNeg), .int (rf52 (x3 + 1).toNatClampNeg), .ref 0] mem Q
  refine ex_call (y' := m_X9_good) (rest := []) (ent := [.ref 0, .int (rf52 (x3 + 1).toNatClampNeg), .int (rf52 (x3 + 2).toNatClampNeg)]) hS hC rfl rfl rfl rfl rfl rfl ?_
  exact k

set_option maxRecDepth 20000 in
theorem bk_L_law_33_c4 {ro : pm_RO} {Q : Option Value → pm_M → Prop} {mem : pm_M} {L : Nat} {rf52 : Nat → Int32} (hr52 : ro 52 = some (L, rf52)) {x3 : Int32} (k : (pm_inb (x3 + 1) L = true) ∧ ((pm_inb (x3 + 2) L = true) ∧ (pm_Ex ro m_X9_set 0 [.ref 0, .int (rf52 (x3 + 1).toNatClampNeg), .int (rf52 (x3 + 2).toNatClampNeg), .null] [] mem (fun v m => pm_Ex ro m_L_law 252 [.ref 52, .ref 0, .ref 33, .int x3] (v.toList ++ []) m Q)))) : pm_Ex ro m_L_law 33 [.ref 52, .ref 0, .ref 33, .int x3] [.int 4] mem Q := by
  have hS : pm_sig[m_L_law]? = some _ := rfl
  have hC : pm_cod[m_L_law]? = some _ := rfl
  refine ex_one (pc' := 238) (ls' := [.ref 52, .ref 0, .ref 33, .int x3]) (st' := []) (mem' := mem) hS hC rfl ?_
  refine ex_many (pc' := 243) (ls' := [.ref 52, .ref 0, .ref 33, .int x3]) (st' := [.int (x3 + 1), .ref 52, .ref 0]) (mem' := mem) hS hC 5 rfl ?_
  refine ex_aldR hS hC rfl rfl hr52 k.1 ?_
  replace k := k.2
  show pm_Ex ro m_L_law 244 [.ref 52, .ref 0, .ref 33, .int x3] [.int (rf52 (x3 + 1).toNatClampNeg), .ref 0] mem Q
  refine ex_many (pc' := 248) (ls' := [.ref 52, .ref 0, .ref 33, .int x3]) (st' := [.int (x3 + 2), .ref 52, .int (rf52 (x3 + 1).toNatClampNeg), .ref 0]) (mem' := mem) hS hC 4 rfl ?_
  refine ex_aldR hS hC rfl rfl hr52 k.1 ?_
  replace k := k.2
  show pm_Ex ro m_L_law 249 [.ref 52, .ref 0, .ref 33, .int x3] [.int (rf52 (x3 + 2).toNatClampNeg), .int (rf52 (x3 + 1).toNatClampNeg), .ref 0] mem Q
  refine ex_call (y' := m_X9_set) (rest := []) (ent := [.ref 0, .int (rf52 (x3 + 1).toNatClampNeg), .int (rf52 (x3 + 2).toNatClampNeg), .null]) hS hC rfl rfl rfl rfl rfl rfl ?_
  exact k

set_option maxRecDepth 20000 in
theorem bk_L_law_33_c5 {ro : pm_RO} {Q : Option Value → pm_M → Prop} {mem : pm_M} {L : Nat} {rf52 : Nat → Int32} (hr52 : ro 52 = some (L, rf52)) {x3 : Int32} (k : (pm_inb (x3 + 1) L = true) ∧ ((pm_inb (x3 + 2) L = true) ∧ (pm_Ex ro m_X9_partner 0 [.ref 0, .int (rf52 (x3 + 1).toNatClampNeg), .int (rf52 (x3 + 2).toNatClampNeg), .null] [] mem (fun v m => pm_Ex ro m_L_law 285 [.ref 52, .ref 0, .ref 33, .int x3] (v.toList ++ []) m Q)))) : pm_Ex ro m_L_law 33 [.ref 52, .ref 0, .ref 33, .int x3] [.int 5] mem Q := by
  have hS : pm_sig[m_L_law]? = some _ := rfl
  have hC : pm_cod[m_L_law]? = some _ := rfl
  refine ex_one (pc' := 271) (ls' := [.ref 52, .ref 0, .ref 33, .int x3]) (st' := []) (mem' := mem) hS hC rfl ?_
  refine ex_many (pc' := 276) (ls' := [.ref 52, .ref 0, .ref 33, .int x3]) (st' := [.int (x3 + 1), .ref 52, .ref 0]) (mem' := mem) hS hC 5 rfl ?_
  refine ex_aldR hS hC rfl rfl hr52 k.1 ?_
  replace k := k.2
  show pm_Ex ro m_L_law 277 [.ref 52, .ref 0, .ref 33, .int x3] [.int (rf52 (x3 + 1).toNatClampNeg), .ref 0] mem Q
  refine ex_many (pc' := 281) (ls' := [.ref 52, .ref 0, .ref 33, .int x3]) (st' := [.int (x3 + 2), .ref 52, .int (rf52 (x3 + 1).toNatClampNeg), .ref 0]) (mem' := mem) hS hC 4 rfl ?_
  refine ex_aldR hS hC rfl rfl hr52 k.1 ?_
  replace k := k.2
  show pm_Ex ro m_L_law 282 [.ref 52, .ref 0, .ref 33, .int x3] [.int (rf52 (x3 + 2).toNatClampNeg), .int (rf52 (x3 + 1).toNatClampNeg), .ref 0] mem Q
  refine ex_call (y' := m_X9_partner) (rest := []) (ent := [.ref 0, .int (rf52 (x3 + 1).toNatClampNeg), .int (rf52 (x3 + 2).toNatClampNeg), .null]) hS hC rfl rfl rfl rfl rfl rfl ?_
  exact k

set_option maxRecDepth 20000 in
theorem bk_L_law_33_c6 {ro : pm_RO} {Q : Option Value → pm_M → Prop} {mem : pm_M} {L : Nat} {rf52 : Nat → Int32} (hr52 : ro 52 = some (L, rf52)) {x3 : Int32} (k : (pm_inb (x3 + 1) L = true) ∧ (pm_Ex ro m_X9_read 0 [.ref 0, .int (rf52 (x3 + 1).toNatClampNeg), .null, .null, .null] [] mem (fun v m => pm_Ex ro m_L_law 313 [.ref 52, .ref 0, .ref 33, .int x3] (v.toList ++ []) m Q))) : pm_Ex ro m_L_law 33 [.ref 52, .ref 0, .ref 33, .int x3] [.int 6] mem Q := by
  have hS : pm_sig[m_L_law]? = some _ := rfl
  have hC : pm_cod[m_L_law]? = some _ := rfl
  refine ex_one (pc' := 304) (ls' := [.ref 52, .ref 0, .ref 33, .int x3]) (st' := []) (mem' := mem) hS hC rfl ?_
  refine ex_many (pc' := 309) (ls' := [.ref 52, .ref 0, .ref 33, .int x3]) (st' := [.int (x3 + 1), .ref 52, .ref 0]) (mem' := mem) hS hC 5 rfl ?_
  refine ex_aldR hS hC rfl rfl hr52 k.1 ?_
  replace k := k.2
  show pm_Ex ro m_L_law 310 [.ref 52, .ref 0, .ref 33, .int x3] [.int (rf52 (x3 + 1).toNatClampNeg), .ref 0] mem Q
  refine ex_call (y' := m_X9_read) (rest := []) (ent := [.ref 0, .int (rf52 (x3 + 1).toNatClampNeg), .null, .null, .null]) hS hC rfl rfl rfl rfl rfl rfl ?_
  exact k

set_option maxRecDepth 20000 in
theorem bk_L_law_33_c7 {ro : pm_RO} {Q : Option Value → pm_M → Prop} {mem : pm_M} {L : Nat} {rf52 : Nat → Int32} (hr52 : ro 52 = some (L, rf52)) {x3 : Int32} (k : (pm_inb (x3 + 1) L = true) ∧ (pm_Ex ro m_X9_paid 0 [.ref 0, .int (rf52 (x3 + 1).toNatClampNeg)] [] mem (fun v m => pm_Ex ro m_L_law 336 [.ref 52, .ref 0, .ref 33, .int x3] (v.toList ++ []) m Q))) : pm_Ex ro m_L_law 33 [.ref 52, .ref 0, .ref 33, .int x3] [.int 7] mem Q := by
  have hS : pm_sig[m_L_law]? = some _ := rfl
  have hC : pm_cod[m_L_law]? = some _ := rfl
  refine ex_one (pc' := 327) (ls' := [.ref 52, .ref 0, .ref 33, .int x3]) (st' := []) (mem' := mem) hS hC rfl ?_
  refine ex_many (pc' := 332) (ls' := [.ref 52, .ref 0, .ref 33, .int x3]) (st' := [.int (x3 + 1), .ref 52, .ref 0]) (mem' := mem) hS hC 5 rfl ?_
  refine ex_aldR hS hC rfl rfl hr52 k.1 ?_
  replace k := k.2
  show pm_Ex ro m_L_law 333 [.ref 52, .ref 0, .ref 33, .int x3] [.int (rf52 (x3 + 1).toNatClampNeg), .ref 0] mem Q
  refine ex_call (y' := m_X9_paid) (rest := []) (ent := [.ref 0, .int (rf52 (x3 + 1).toNatClampNeg)]) hS hC rfl rfl rfl rfl rfl rfl ?_
  exact k

set_option maxRecDepth 20000 in
theorem bk_L_law_33_c8 {ro : pm_RO} {Q : Option Value → pm_M → Prop} {mem : pm_M} {L : Nat} {rf52 : Nat → Int32} (hr52 : ro 52 = some (L, rf52)) {x3 : Int32} (k : (pm_inb (x3 + 1) L = true) ∧ ((pm_inb (x3 + 2) L = true) ∧ (pm_Ex ro m_X9_bill 0 [.ref 0, .int (rf52 (x3 + 1).toNatClampNeg), .int (rf52 (x3 + 2).toNatClampNeg)] [] mem (fun v m => pm_Ex ro m_L_law 364 [.ref 52, .ref 0, .ref 33, .int x3] (v.toList ++ []) m Q)))) : pm_Ex ro m_L_law 33 [.ref 52, .ref 0, .ref 33, .int x3] [.int 8] mem Q := by
  have hS : pm_sig[m_L_law]? = some _ := rfl
  have hC : pm_cod[m_L_law]? = some _ := rfl
  refine ex_one (pc' := 350) (ls' := [.ref 52, .ref 0, .ref 33, .int x3]) (st' := []) (mem' := mem) hS hC rfl ?_
  refine ex_many (pc' := 355) (ls' := [.ref 52, .ref 0, .ref 33, .int x3]) (st' := [.int (x3 + 1), .ref 52, .ref 0]) (mem' := mem) hS hC 5 rfl ?_
  refine ex_aldR hS hC rfl rfl hr52 k.1 ?_
  replace k := k.2
  show pm_Ex ro m_L_law 356 [.ref 52, .ref 0, .ref 33, .int x3] [.int (rf52 (x3 + 1).toNatClampNeg), .ref 0] mem Q
  refine ex_many (pc' := 360) (ls' := [.ref 52, .ref 0, .ref 33, .int x3]) (st' := [.int (x3 + 2), .ref 52, .int (rf52 (x3 + 1).toNatClampNeg), .ref 0]) (mem' := mem) hS hC 4 rfl ?_
  refine ex_aldR hS hC rfl rfl hr52 k.1 ?_
  replace k := k.2
  show pm_Ex ro m_L_law 361 [.ref 52, .ref 0, .ref 33, .int x3] [.int (rf52 (x3 + 2).toNatClampNeg), .int (rf52 (x3 + 1).toNatClampNeg), .ref 0] mem Q
  refine ex_call (y' := m_X9_bill) (rest := []) (ent := [.ref 0, .int (rf52 (x3 + 1).toNatClampNeg), .int (rf52 (x3 + 2).toNatClampNeg)]) hS hC rfl rfl rfl rfl rfl rfl ?_
  exact k

set_option maxRecDepth 20000 in
theorem bk_L_law_33_c9 {ro : pm_RO} {Q : Option Value → pm_M → Prop} {mem : pm_M} {L : Nat} {rf52 : Nat → Int32} (hr52 : ro 52 = some (L, rf52)) {x3 : Int32} (k : (pm_inb (x3 + 1) L = true) ∧ (pm_Ex ro m_X9_bought 0 [.ref 0, .int (rf52 (x3 + 1).toNatClampNeg)] [] mem (fun v m => pm_Ex ro m_L_law 392 [.ref 52, .ref 0, .ref 33, .int x3] (v.toList ++ []) m Q))) : pm_Ex ro m_L_law 33 [.ref 52, .ref 0, .ref 33, .int x3] [.int 9] mem Q := by
  have hS : pm_sig[m_L_law]? = some _ := rfl
  have hC : pm_cod[m_L_law]? = some _ := rfl
  refine ex_one (pc' := 383) (ls' := [.ref 52, .ref 0, .ref 33, .int x3]) (st' := []) (mem' := mem) hS hC rfl ?_
  refine ex_many (pc' := 388) (ls' := [.ref 52, .ref 0, .ref 33, .int x3]) (st' := [.int (x3 + 1), .ref 52, .ref 0]) (mem' := mem) hS hC 5 rfl ?_
  refine ex_aldR hS hC rfl rfl hr52 k.1 ?_
  replace k := k.2
  show pm_Ex ro m_L_law 389 [.ref 52, .ref 0, .ref 33, .int x3] [.int (rf52 (x3 + 1).toNatClampNeg), .ref 0] mem Q
  refine ex_call (y' := m_X9_bought) (rest := []) (ent := [.ref 0, .int (rf52 (x3 + 1).toNatClampNeg)]) hS hC rfl rfl rfl rfl rfl rfl ?_
  exact k

set_option maxRecDepth 20000 in
theorem bk_L_law_33_c10 {ro : pm_RO} {Q : Option Value → pm_M → Prop} {mem : pm_M} {L : Nat} {rf52 : Nat → Int32} (hr52 : ro 52 = some (L, rf52)) {x3 : Int32} (k : (pm_inb (x3 + 1) L = true) ∧ (pm_Ex ro m_X9_added 0 [.ref 0, .int (rf52 (x3 + 1).toNatClampNeg), .null, .null, .null, .null] [] mem (fun v m => pm_Ex ro m_L_law 415 [.ref 52, .ref 0, .ref 33, .int x3] (v.toList ++ []) m Q))) : pm_Ex ro m_L_law 33 [.ref 52, .ref 0, .ref 33, .int x3] [.int 10] mem Q := by
  have hS : pm_sig[m_L_law]? = some _ := rfl
  have hC : pm_cod[m_L_law]? = some _ := rfl
  refine ex_one (pc' := 406) (ls' := [.ref 52, .ref 0, .ref 33, .int x3]) (st' := []) (mem' := mem) hS hC rfl ?_
  refine ex_many (pc' := 411) (ls' := [.ref 52, .ref 0, .ref 33, .int x3]) (st' := [.int (x3 + 1), .ref 52, .ref 0]) (mem' := mem) hS hC 5 rfl ?_
  refine ex_aldR hS hC rfl rfl hr52 k.1 ?_
  replace k := k.2
  show pm_Ex ro m_L_law 412 [.ref 52, .ref 0, .ref 33, .int x3] [.int (rf52 (x3 + 1).toNatClampNeg), .ref 0] mem Q
  refine ex_call (y' := m_X9_added) (rest := []) (ent := [.ref 0, .int (rf52 (x3 + 1).toNatClampNeg), .null, .null, .null, .null]) hS hC rfl rfl rfl rfl rfl rfl ?_
  exact k

set_option maxRecDepth 20000 in
theorem bk_L_law_33_c11 {ro : pm_RO} {Q : Option Value → pm_M → Prop} {mem : pm_M} {L : Nat} {rf52 : Nat → Int32} (hr52 : ro 52 = some (L, rf52)) {x3 : Int32} (k : (pm_inb (x3 + 1) L = true) ∧ ((pm_inb (x3 + 2) L = true) ∧ (pm_Ex ro m_X9_proof 0 [.ref 0, .int (rf52 (x3 + 1).toNatClampNeg), .int (rf52 (x3 + 2).toNatClampNeg), .null] [] mem (fun v m => pm_Ex ro m_L_law 443 [.ref 52, .ref 0, .ref 33, .int x3] (v.toList ++ []) m Q)))) : pm_Ex ro m_L_law 33 [.ref 52, .ref 0, .ref 33, .int x3] [.int 11] mem Q := by
  have hS : pm_sig[m_L_law]? = some _ := rfl
  have hC : pm_cod[m_L_law]? = some _ := rfl
  refine ex_one (pc' := 429) (ls' := [.ref 52, .ref 0, .ref 33, .int x3]) (st' := []) (mem' := mem) hS hC rfl ?_
  refine ex_many (pc' := 434) (ls' := [.ref 52, .ref 0, .ref 33, .int x3]) (st' := [.int (x3 + 1), .ref 52, .ref 0]) (mem' := mem) hS hC 5 rfl ?_
  refine ex_aldR hS hC rfl rfl hr52 k.1 ?_
  replace k := k.2
  show pm_Ex ro m_L_law 435 [.ref 52, .ref 0, .ref 33, .int x3] [.int (rf52 (x3 + 1).toNatClampNeg), .ref 0] mem Q
  refine ex_many (pc' := 439) (ls' := [.ref 52, .ref 0, .ref 33, .int x3]) (st' := [.int (x3 + 2), .ref 52, .int (rf52 (x3 + 1).toNatClampNeg), .ref 0]) (mem' := mem) hS hC 4 rfl ?_
  refine ex_aldR hS hC rfl rfl hr52 k.1 ?_
  replace k := k.2
  show pm_Ex ro m_L_law 440 [.ref 52, .ref 0, .ref 33, .int x3] [.int (rf52 (x3 + 2).toNatClampNeg), .int (rf52 (x3 + 1).toNatClampNeg), .ref 0] mem Q
  refine ex_call (y' := m_X9_proof) (rest := []) (ent := [.ref 0, .int (rf52 (x3 + 1).toNatClampNeg), .int (rf52 (x3 + 2).toNatClampNeg), .null]) hS hC rfl rfl rfl rfl rfl rfl ?_
  exact k

set_option maxRecDepth 20000 in
theorem bk_L_law_33_c12 {ro : pm_RO} {Q : Option Value → pm_M → Prop} {mem : pm_M} {L : Nat} {rf52 : Nat → Int32} (hr52 : ro 52 = some (L, rf52)) {x3 : Int32} (k : (pm_inb (x3 + 1) L = true) ∧ ((pm_inb (x3 + 2) L = true) ∧ (pm_Ex ro m_X9_raised 0 [.ref 0, .int (rf52 (x3 + 1).toNatClampNeg), .int (rf52 (x3 + 2).toNatClampNeg)] [] mem (fun v m => pm_Ex ro m_L_law 476 [.ref 52, .ref 0, .ref 33, .int x3] (v.toList ++ []) m Q)))) : pm_Ex ro m_L_law 33 [.ref 52, .ref 0, .ref 33, .int x3] [.int 12] mem Q := by
  have hS : pm_sig[m_L_law]? = some _ := rfl
  have hC : pm_cod[m_L_law]? = some _ := rfl
  refine ex_one (pc' := 462) (ls' := [.ref 52, .ref 0, .ref 33, .int x3]) (st' := []) (mem' := mem) hS hC rfl ?_
  refine ex_many (pc' := 467) (ls' := [.ref 52, .ref 0, .ref 33, .int x3]) (st' := [.int (x3 + 1), .ref 52, .ref 0]) (mem' := mem) hS hC 5 rfl ?_
  refine ex_aldR hS hC rfl rfl hr52 k.1 ?_
  replace k := k.2
  show pm_Ex ro m_L_law 468 [.ref 52, .ref 0, .ref 33, .int x3] [.int (rf52 (x3 + 1).toNatClampNeg), .ref 0] mem Q
  refine ex_many (pc' := 472) (ls' := [.ref 52, .ref 0, .ref 33, .int x3]) (st' := [.int (x3 + 2), .ref 52, .int (rf52 (x3 + 1).toNatClampNeg), .ref 0]) (mem' := mem) hS hC 4 rfl ?_
  refine ex_aldR hS hC rfl rfl hr52 k.1 ?_
  replace k := k.2
  show pm_Ex ro m_L_law 473 [.ref 52, .ref 0, .ref 33, .int x3] [.int (rf52 (x3 + 2).toNatClampNeg), .int (rf52 (x3 + 1).toNatClampNeg), .ref 0] mem Q
  refine ex_call (y' := m_X9_raised) (rest := []) (ent := [.ref 0, .int (rf52 (x3 + 1).toNatClampNeg), .int (rf52 (x3 + 2).toNatClampNeg)]) hS hC rfl rfl rfl rfl rfl rfl ?_
  exact k

set_option maxRecDepth 20000 in
theorem bk_L_law_33_c13 {ro : pm_RO} {Q : Option Value → pm_M → Prop} {mem : pm_M} {L : Nat} {rf52 : Nat → Int32} (hr52 : ro 52 = some (L, rf52)) {x3 : Int32} (k : (pm_inb (x3 + 1) L = true) ∧ ((pm_inb (x3 + 2) L = true) ∧ ((pm_inb (x3 + 3) L = true) ∧ (pm_Ex ro m_X9_rounds 0 [.ref 0, .int (rf52 (x3 + 1).toNatClampNeg), .int (rf52 (x3 + 2).toNatClampNeg), .int (rf52 (x3 + 3).toNatClampNeg)] [] mem (fun v m => pm_Ex ro m_L_law 514 [.ref 52, .ref 0, .ref 33, .int x3] (v.toList ++ []) m Q))))) : pm_Ex ro m_L_law 33 [.ref 52, .ref 0, .ref 33, .int x3] [.int 13] mem Q := by
  have hS : pm_sig[m_L_law]? = some _ := rfl
  have hC : pm_cod[m_L_law]? = some _ := rfl
  refine ex_one (pc' := 495) (ls' := [.ref 52, .ref 0, .ref 33, .int x3]) (st' := []) (mem' := mem) hS hC rfl ?_
  refine ex_many (pc' := 500) (ls' := [.ref 52, .ref 0, .ref 33, .int x3]) (st' := [.int (x3 + 1), .ref 52, .ref 0]) (mem' := mem) hS hC 5 rfl ?_
  refine ex_aldR hS hC rfl rfl hr52 k.1 ?_
  replace k := k.2
  show pm_Ex ro m_L_law 501 [.ref 52, .ref 0, .ref 33, .int x3] [.int (rf52 (x3 + 1).toNatClampNeg), .ref 0] mem Q
  refine ex_many (pc' := 505) (ls' := [.ref 52, .ref 0, .ref 33, .int x3]) (st' := [.int (x3 + 2), .ref 52, .int (rf52 (x3 + 1).toNatClampNeg), .ref 0]) (mem' := mem) hS hC 4 rfl ?_
  refine ex_aldR hS hC rfl rfl hr52 k.1 ?_
  replace k := k.2
  show pm_Ex ro m_L_law 506 [.ref 52, .ref 0, .ref 33, .int x3] [.int (rf52 (x3 + 2).toNatClampNeg), .int (rf52 (x3 + 1).toNatClampNeg), .ref 0] mem Q
  refine ex_many (pc' := 510) (ls' := [.ref 52, .ref 0, .ref 33, .int x3]) (st' := [.int (x3 + 3), .ref 52, .int (rf52 (x3 + 2).toNatClampNeg), .int (rf52 (x3 + 1).toNatClampNeg), .ref 0]) (mem' := mem) hS hC 4 rfl ?_
  refine ex_aldR hS hC rfl rfl hr52 k.1 ?_
  replace k := k.2
  show pm_Ex ro m_L_law 511 [.ref 52, .ref 0, .ref 33, .int x3] [.int (rf52 (x3 + 3).toNatClampNeg), .int (rf52 (x3 + 2).toNatClampNeg), .int (rf52 (x3 + 1).toNatClampNeg), .ref 0] mem Q
  refine ex_call (y' := m_X9_rounds) (rest := []) (ent := [.ref 0, .int (rf52 (x3 + 1).toNatClampNeg), .int (rf52 (x3 + 2).toNatClampNeg), .int (rf52 (x3 + 3).toNatClampNeg)]) hS hC rfl rfl rfl rfl rfl rfl ?_
  exact k

set_option maxRecDepth 20000 in
theorem bk_L_law_33_c14 {ro : pm_RO} {Q : Option Value → pm_M → Prop} {mem : pm_M} {L : Nat} {rf52 : Nat → Int32} (hr52 : ro 52 = some (L, rf52)) {x3 : Int32} (k : (pm_inb (x3 + 1) L = true) ∧ ((pm_inb (x3 + 2) L = true) ∧ (pm_Ex ro m_X9_figures 0 [.ref 0, .int (rf52 (x3 + 1).toNatClampNeg), .int (rf52 (x3 + 2).toNatClampNeg)] [] mem (fun v m => pm_Ex ro m_L_law 552 [.ref 52, .ref 0, .ref 33, .int x3] (v.toList ++ []) m Q)))) : pm_Ex ro m_L_law 33 [.ref 52, .ref 0, .ref 33, .int x3] [.int 14] mem Q := by
  have hS : pm_sig[m_L_law]? = some _ := rfl
  have hC : pm_cod[m_L_law]? = some _ := rfl
  refine ex_one (pc' := 538) (ls' := [.ref 52, .ref 0, .ref 33, .int x3]) (st' := []) (mem' := mem) hS hC rfl ?_
  refine ex_many (pc' := 543) (ls' := [.ref 52, .ref 0, .ref 33, .int x3]) (st' := [.int (x3 + 1), .ref 52, .ref 0]) (mem' := mem) hS hC 5 rfl ?_
  refine ex_aldR hS hC rfl rfl hr52 k.1 ?_
  replace k := k.2
  show pm_Ex ro m_L_law 544 [.ref 52, .ref 0, .ref 33, .int x3] [.int (rf52 (x3 + 1).toNatClampNeg), .ref 0] mem Q
  refine ex_many (pc' := 548) (ls' := [.ref 52, .ref 0, .ref 33, .int x3]) (st' := [.int (x3 + 2), .ref 52, .int (rf52 (x3 + 1).toNatClampNeg), .ref 0]) (mem' := mem) hS hC 4 rfl ?_
  refine ex_aldR hS hC rfl rfl hr52 k.1 ?_
  replace k := k.2
  show pm_Ex ro m_L_law 549 [.ref 52, .ref 0, .ref 33, .int x3] [.int (rf52 (x3 + 2).toNatClampNeg), .int (rf52 (x3 + 1).toNatClampNeg), .ref 0] mem Q
  refine ex_call (y' := m_X9_figures) (rest := []) (ent := [.ref 0, .int (rf52 (x3 + 1).toNatClampNeg), .int (rf52 (x3 + 2).toNatClampNeg)]) hS hC rfl rfl rfl rfl rfl rfl ?_
  exact k

set_option maxRecDepth 20000 in
theorem bk_L_law_33_c15 {ro : pm_RO} {Q : Option Value → pm_M → Prop} {mem : pm_M} {L : Nat} {rf52 : Nat → Int32} (hr52 : ro 52 = some (L, rf52)) {x3 : Int32} (k : (pm_inb (x3 + 1) L = true) ∧ ((pm_inb (x3 + 2) L = true) ∧ ((pm_inb (x3 + 3) L = true) ∧ (pm_Ex ro m_X9_rent 0 [.ref 0, .int (rf52 (x3 + 1).toNatClampNeg), .int (rf52 (x3 + 2).toNatClampNeg), .int (rf52 (x3 + 3).toNatClampNeg)] [] mem (fun v m => pm_Ex ro m_L_law 590 [.ref 52, .ref 0, .ref 33, .int x3] (v.toList ++ []) m Q))))) : pm_Ex ro m_L_law 33 [.ref 52, .ref 0, .ref 33, .int x3] [.int 15] mem Q := by
  have hS : pm_sig[m_L_law]? = some _ := rfl
  have hC : pm_cod[m_L_law]? = some _ := rfl
  refine ex_one (pc' := 571) (ls' := [.ref 52, .ref 0, .ref 33, .int x3]) (st' := []) (mem' := mem) hS hC rfl ?_
  refine ex_many (pc' := 576) (ls' := [.ref 52, .ref 0, .ref 33, .int x3]) (st' := [.int (x3 + 1), .ref 52, .ref 0]) (mem' := mem) hS hC 5 rfl ?_
  refine ex_aldR hS hC rfl rfl hr52 k.1 ?_
  replace k := k.2
  show pm_Ex ro m_L_law 577 [.ref 52, .ref 0, .ref 33, .int x3] [.int (rf52 (x3 + 1).toNatClampNeg), .ref 0] mem Q
  refine ex_many (pc' := 581) (ls' := [.ref 52, .ref 0, .ref 33, .int x3]) (st' := [.int (x3 + 2), .ref 52, .int (rf52 (x3 + 1).toNatClampNeg), .ref 0]) (mem' := mem) hS hC 4 rfl ?_
  refine ex_aldR hS hC rfl rfl hr52 k.1 ?_
  replace k := k.2
  show pm_Ex ro m_L_law 582 [.ref 52, .ref 0, .ref 33, .int x3] [.int (rf52 (x3 + 2).toNatClampNeg), .int (rf52 (x3 + 1).toNatClampNeg), .ref 0] mem Q
  refine ex_many (pc' := 586) (ls' := [.ref 52, .ref 0, .ref 33, .int x3]) (st' := [.int (x3 + 3), .ref 52, .int (rf52 (x3 + 2).toNatClampNeg), .int (rf52 (x3 + 1).toNatClampNeg), .ref 0]) (mem' := mem) hS hC 4 rfl ?_
  refine ex_aldR hS hC rfl rfl hr52 k.1 ?_
  replace k := k.2
  show pm_Ex ro m_L_law 587 [.ref 52, .ref 0, .ref 33, .int x3] [.int (rf52 (x3 + 3).toNatClampNeg), .int (rf52 (x3 + 2).toNatClampNeg), .int (rf52 (x3 + 1).toNatClampNeg), .ref 0] mem Q
  refine ex_call (y' := m_X9_rent) (rest := []) (ent := [.ref 0, .int (rf52 (x3 + 1).toNatClampNeg), .int (rf52 (x3 + 2).toNatClampNeg), .int (rf52 (x3 + 3).toNatClampNeg)]) hS hC rfl rfl rfl rfl rfl rfl ?_
  exact k

set_option maxRecDepth 20000 in
theorem bk_L_law_33_c16 {ro : pm_RO} {Q : Option Value → pm_M → Prop} {mem : pm_M} {L : Nat} {rf52 : Nat → Int32} (hr52 : ro 52 = some (L, rf52)) {x3 : Int32} (k : (pm_inb (x3 + 1) L = true) ∧ ((pm_inb (x3 + 2) L = true) ∧ (pm_Ex ro m_X9_share 0 [.ref 0, .int (rf52 (x3 + 1).toNatClampNeg), .int (rf52 (x3 + 2).toNatClampNeg), .null, .null, .null] [] mem (fun v m => pm_Ex ro m_L_law 628 [.ref 52, .ref 0, .ref 33, .int x3] (v.toList ++ []) m Q)))) : pm_Ex ro m_L_law 33 [.ref 52, .ref 0, .ref 33, .int x3] [.int 16] mem Q := by
  have hS : pm_sig[m_L_law]? = some _ := rfl
  have hC : pm_cod[m_L_law]? = some _ := rfl
  refine ex_one (pc' := 614) (ls' := [.ref 52, .ref 0, .ref 33, .int x3]) (st' := []) (mem' := mem) hS hC rfl ?_
  refine ex_many (pc' := 619) (ls' := [.ref 52, .ref 0, .ref 33, .int x3]) (st' := [.int (x3 + 1), .ref 52, .ref 0]) (mem' := mem) hS hC 5 rfl ?_
  refine ex_aldR hS hC rfl rfl hr52 k.1 ?_
  replace k := k.2
  show pm_Ex ro m_L_law 620 [.ref 52, .ref 0, .ref 33, .int x3] [.int (rf52 (x3 + 1).toNatClampNeg), .ref 0] mem Q
  refine ex_many (pc' := 624) (ls' := [.ref 52, .ref 0, .ref 33, .int x3]) (st' := [.int (x3 + 2), .ref 52, .int (rf52 (x3 + 1).toNatClampNeg), .ref 0]) (mem' := mem) hS hC 4 rfl ?_
  refine ex_aldR hS hC rfl rfl hr52 k.1 ?_
  replace k := k.2
  show pm_Ex ro m_L_law 625 [.ref 52, .ref 0, .ref 33, .int x3] [.int (rf52 (x3 + 2).toNatClampNeg), .int (rf52 (x3 + 1).toNatClampNeg), .ref 0] mem Q
  refine ex_call (y' := m_X9_share) (rest := []) (ent := [.ref 0, .int (rf52 (x3 + 1).toNatClampNeg), .int (rf52 (x3 + 2).toNatClampNeg), .null, .null, .null]) hS hC rfl rfl rfl rfl rfl rfl ?_
  exact k

set_option maxRecDepth 20000 in
theorem bk_L_law_33_c17 {ro : pm_RO} {Q : Option Value → pm_M → Prop} {mem : pm_M} {L : Nat} {rf52 : Nat → Int32} (hr52 : ro 52 = some (L, rf52)) {x3 : Int32} (k : (pm_inb (x3 + 1) L = true) ∧ ((pm_inb (x3 + 2) L = true) ∧ (pm_Ex ro m_X9_smudged 0 [.ref 0, .int (rf52 (x3 + 1).toNatClampNeg), .int (rf52 (x3 + 2).toNatClampNeg), .null, .null, .null, .null] [] mem (fun v m => pm_Ex ro m_L_law 662 [.ref 52, .ref 0, .ref 33, .int x3] (v.toList ++ []) m Q)))) : pm_Ex ro m_L_law 33 [.ref 52, .ref 0, .ref 33, .int x3] [.int 17] mem Q := by
  have hS : pm_sig[m_L_law]? = some _ := rfl
  have hC : pm_cod[m_L_law]? = some _ := rfl
  refine ex_one (pc' := 648) (ls' := [.ref 52, .ref 0, .ref 33, .int x3]) (st' := []) (mem' := mem) hS hC rfl ?_
  refine ex_many (pc' := 653) (ls' := [.ref 52, .ref 0, .ref 33, .int x3]) (st' := [.int (x3 + 1), .ref 52, .ref 0]) (mem' := mem) hS hC 5 rfl ?_
  refine ex_aldR hS hC rfl rfl hr52 k.1 ?_
  replace k := k.2
  show pm_Ex ro m_L_law 654 [.ref 52, .ref 0, .ref 33, .int x3] [.int (rf52 (x3 + 1).toNatClampNeg), .ref 0] mem Q
  refine ex_many (pc' := 658) (ls' := [.ref 52, .ref 0, .ref 33, .int x3]) (st' := [.int (x3 + 2), .ref 52, .int (rf52 (x3 + 1).toNatClampNeg), .ref 0]) (mem' := mem) hS hC 4 rfl ?_
  refine ex_aldR hS hC rfl rfl hr52 k.1 ?_
  replace k := k.2
  show pm_Ex ro m_L_law 659 [.ref 52, .ref 0, .ref 33, .int x3] [.int (rf52 (x3 + 2).toNatClampNeg), .int (rf52 (x3 + 1).toNatClampNeg), .ref 0] mem Q
  refine ex_call (y' := m_X9_smudged) (rest := []) (ent := [.ref 0, .int (rf52 (x3 + 1).toNatClampNeg), .int (rf52 (x3 + 2).toNatClampNeg), .null, .null, .null, .null]) hS hC rfl rfl rfl rfl rfl rfl ?_
  exact k

set_option maxRecDepth 20000 in
theorem bk_L_law_33_c18 {ro : pm_RO} {Q : Option Value → pm_M → Prop} {mem : pm_M} {L : Nat} {rf52 : Nat → Int32} (hr52 : ro 52 = some (L, rf52)) {x3 : Int32} (k : (pm_inb (x3 + 1) L = true) ∧ ((pm_inb (x3 + 2) L = true) ∧ ((pm_inb (x3 + 3) L = true) ∧ ((pm_inb (x3 + 4) L = true) ∧ (pm_Ex ro m_X9_game 0 [.ref 0, .int (rf52 (x3 + 1).toNatClampNeg), .int (rf52 (x3 + 2).toNatClampNeg), .int (rf52 (x3 + 3).toNatClampNeg), .int (rf52 (x3 + 4).toNatClampNeg), .null] [] mem (fun v m => pm_Ex ro m_L_law 705 [.ref 52, .ref 0, .ref 33, .int x3] (v.toList ++ []) m Q)))))) : pm_Ex ro m_L_law 33 [.ref 52, .ref 0, .ref 33, .int x3] [.int 18] mem Q := by
  have hS : pm_sig[m_L_law]? = some _ := rfl
  have hC : pm_cod[m_L_law]? = some _ := rfl
  refine ex_one (pc' := 681) (ls' := [.ref 52, .ref 0, .ref 33, .int x3]) (st' := []) (mem' := mem) hS hC rfl ?_
  refine ex_many (pc' := 686) (ls' := [.ref 52, .ref 0, .ref 33, .int x3]) (st' := [.int (x3 + 1), .ref 52, .ref 0]) (mem' := mem) hS hC 5 rfl ?_
  refine ex_aldR hS hC rfl rfl hr52 k.1 ?_
  replace k := k.2
  show pm_Ex ro m_L_law 687 [.ref 52, .ref 0, .ref 33, .int x3] [.int (rf52 (x3 + 1).toNatClampNeg), .ref 0] mem Q
  refine ex_many (pc' := 691) (ls' := [.ref 52, .ref 0, .ref 33, .int x3]) (st' := [.int (x3 + 2), .ref 52, .int (rf52 (x3 + 1).toNatClampNeg), .ref 0]) (mem' := mem) hS hC 4 rfl ?_
  refine ex_aldR hS hC rfl rfl hr52 k.1 ?_
  replace k := k.2
  show pm_Ex ro m_L_law 692 [.ref 52, .ref 0, .ref 33, .int x3] [.int (rf52 (x3 + 2).toNatClampNeg), .int (rf52 (x3 + 1).toNatClampNeg), .ref 0] mem Q
  refine ex_many (pc' := 696) (ls' := [.ref 52, .ref 0, .ref 33, .int x3]) (st' := [.int (x3 + 3), .ref 52, .int (rf52 (x3 + 2).toNatClampNeg), .int (rf52 (x3 + 1).toNatClampNeg), .ref 0]) (mem' := mem) hS hC 4 rfl ?_
  refine ex_aldR hS hC rfl rfl hr52 k.1 ?_
  replace k := k.2
  show pm_Ex ro m_L_law 697 [.ref 52, .ref 0, .ref 33, .int x3] [.int (rf52 (x3 + 3).toNatClampNeg), .int (rf52 (x3 + 2).toNatClampNeg), .int (rf52 (x3 + 1).toNatClampNeg), .ref 0] mem Q
  refine ex_many (pc' := 701) (ls' := [.ref 52, .ref 0, .ref 33, .int x3]) (st' := [.int (x3 + 4), .ref 52, .int (rf52 (x3 + 3).toNatClampNeg), .int (rf52 (x3 + 2).toNatClampNeg), .int (rf52 (x3 + 1).toNatClampNeg), .ref 0]) (mem' := mem) hS hC 4 rfl ?_
  refine ex_aldR hS hC rfl rfl hr52 k.1 ?_
  replace k := k.2
  show pm_Ex ro m_L_law 702 [.ref 52, .ref 0, .ref 33, .int x3] [.int (rf52 (x3 + 4).toNatClampNeg), .int (rf52 (x3 + 3).toNatClampNeg), .int (rf52 (x3 + 2).toNatClampNeg), .int (rf52 (x3 + 1).toNatClampNeg), .ref 0] mem Q
  refine ex_call (y' := m_X9_game) (rest := []) (ent := [.ref 0, .int (rf52 (x3 + 1).toNatClampNeg), .int (rf52 (x3 + 2).toNatClampNeg), .int (rf52 (x3 + 3).toNatClampNeg), .int (rf52 (x3 + 4).toNatClampNeg), .null]) hS hC rfl rfl rfl rfl rfl rfl ?_
  exact k

set_option maxRecDepth 20000 in
theorem bk_L_law_33_c19 {ro : pm_RO} {Q : Option Value → pm_M → Prop} {mem : pm_M} {L : Nat} {rf52 : Nat → Int32} (hr52 : ro 52 = some (L, rf52)) {x3 : Int32} (k : (pm_inb (x3 + 1) L = true) ∧ ((pm_inb (x3 + 2) L = true) ∧ ((pm_inb (x3 + 3) L = true) ∧ (pm_Ex ro m_X9_sheet 0 [.ref 0, .int (rf52 (x3 + 1).toNatClampNeg), .int (rf52 (x3 + 2).toNatClampNeg), .int (rf52 (x3 + 3).toNatClampNeg)] [] mem (fun v m => pm_Ex ro m_L_law 753 [.ref 52, .ref 0, .ref 33, .int x3] (v.toList ++ []) m Q))))) : pm_Ex ro m_L_law 33 [.ref 52, .ref 0, .ref 33, .int x3] [.int 19] mem Q := by
  have hS : pm_sig[m_L_law]? = some _ := rfl
  have hC : pm_cod[m_L_law]? = some _ := rfl
  refine ex_one (pc' := 734) (ls' := [.ref 52, .ref 0, .ref 33, .int x3]) (st' := []) (mem' := mem) hS hC rfl ?_
  refine ex_many (pc' := 739) (ls' := [.ref 52, .ref 0, .ref 33, .int x3]) (st' := [.int (x3 + 1), .ref 52, .ref 0]) (mem' := mem) hS hC 5 rfl ?_
  refine ex_aldR hS hC rfl rfl hr52 k.1 ?_
  replace k := k.2
  show pm_Ex ro m_L_law 740 [.ref 52, .ref 0, .ref 33, .int x3] [.int (rf52 (x3 + 1).toNatClampNeg), .ref 0] mem Q
  refine ex_many (pc' := 744) (ls' := [.ref 52, .ref 0, .ref 33, .int x3]) (st' := [.int (x3 + 2), .ref 52, .int (rf52 (x3 + 1).toNatClampNeg), .ref 0]) (mem' := mem) hS hC 4 rfl ?_
  refine ex_aldR hS hC rfl rfl hr52 k.1 ?_
  replace k := k.2
  show pm_Ex ro m_L_law 745 [.ref 52, .ref 0, .ref 33, .int x3] [.int (rf52 (x3 + 2).toNatClampNeg), .int (rf52 (x3 + 1).toNatClampNeg), .ref 0] mem Q
  refine ex_many (pc' := 749) (ls' := [.ref 52, .ref 0, .ref 33, .int x3]) (st' := [.int (x3 + 3), .ref 52, .int (rf52 (x3 + 2).toNatClampNeg), .int (rf52 (x3 + 1).toNatClampNeg), .ref 0]) (mem' := mem) hS hC 4 rfl ?_
  refine ex_aldR hS hC rfl rfl hr52 k.1 ?_
  replace k := k.2
  show pm_Ex ro m_L_law 750 [.ref 52, .ref 0, .ref 33, .int x3] [.int (rf52 (x3 + 3).toNatClampNeg), .int (rf52 (x3 + 2).toNatClampNeg), .int (rf52 (x3 + 1).toNatClampNeg), .ref 0] mem Q
  refine ex_call (y' := m_X9_sheet) (rest := []) (ent := [.ref 0, .int (rf52 (x3 + 1).toNatClampNeg), .int (rf52 (x3 + 2).toNatClampNeg), .int (rf52 (x3 + 3).toNatClampNeg)]) hS hC rfl rfl rfl rfl rfl rfl ?_
  exact k

set_option maxRecDepth 20000 in
theorem bk_L_law_33_c20 {ro : pm_RO} {Q : Option Value → pm_M → Prop} {mem : pm_M} {L : Nat} {rf52 : Nat → Int32} (hr52 : ro 52 = some (L, rf52)) {x3 : Int32} (k : (pm_inb (x3 + 1) L = true) ∧ (pm_Ex ro m_X9_lose 0 [.ref 0, .int (rf52 (x3 + 1).toNatClampNeg), .null] [] mem (fun v m => pm_Ex ro m_L_law 786 [.ref 52, .ref 0, .ref 33, .int x3] (v.toList ++ []) m Q))) : pm_Ex ro m_L_law 33 [.ref 52, .ref 0, .ref 33, .int x3] [.int 20] mem Q := by
  have hS : pm_sig[m_L_law]? = some _ := rfl
  have hC : pm_cod[m_L_law]? = some _ := rfl
  refine ex_one (pc' := 777) (ls' := [.ref 52, .ref 0, .ref 33, .int x3]) (st' := []) (mem' := mem) hS hC rfl ?_
  refine ex_many (pc' := 782) (ls' := [.ref 52, .ref 0, .ref 33, .int x3]) (st' := [.int (x3 + 1), .ref 52, .ref 0]) (mem' := mem) hS hC 5 rfl ?_
  refine ex_aldR hS hC rfl rfl hr52 k.1 ?_
  replace k := k.2
  show pm_Ex ro m_L_law 783 [.ref 52, .ref 0, .ref 33, .int x3] [.int (rf52 (x3 + 1).toNatClampNeg), .ref 0] mem Q
  refine ex_call (y' := m_X9_lose) (rest := []) (ent := [.ref 0, .int (rf52 (x3 + 1).toNatClampNeg), .null]) hS hC rfl rfl rfl rfl rfl rfl ?_
  exact k

set_option maxRecDepth 20000 in
theorem bk_L_law_33_c21 {ro : pm_RO} {Q : Option Value → pm_M → Prop} {mem : pm_M} {L : Nat} {rf52 : Nat → Int32} (hr52 : ro 52 = some (L, rf52)) {x3 : Int32} (k : (pm_inb (x3 + 1) L = true) ∧ ((pm_inb (x3 + 2) L = true) ∧ ((pm_inb (x3 + 3) L = true) ∧ ((pm_inb (x3 + 4) L = true) ∧ (pm_Ex ro m_X9_lay 0 [.ref 0, .int (rf52 (x3 + 1).toNatClampNeg), .int (rf52 (x3 + 2).toNatClampNeg), .int (rf52 (x3 + 3).toNatClampNeg), .int (rf52 (x3 + 4).toNatClampNeg), .null] [] mem (fun v m => pm_Ex ro m_L_law 824 [.ref 52, .ref 0, .ref 33, .int x3] (v.toList ++ []) m Q)))))) : pm_Ex ro m_L_law 33 [.ref 52, .ref 0, .ref 33, .int x3] [.int 21] mem Q := by
  have hS : pm_sig[m_L_law]? = some _ := rfl
  have hC : pm_cod[m_L_law]? = some _ := rfl
  refine ex_one (pc' := 800) (ls' := [.ref 52, .ref 0, .ref 33, .int x3]) (st' := []) (mem' := mem) hS hC rfl ?_
  refine ex_many (pc' := 805) (ls' := [.ref 52, .ref 0, .ref 33, .int x3]) (st' := [.int (x3 + 1), .ref 52, .ref 0]) (mem' := mem) hS hC 5 rfl ?_
  refine ex_aldR hS hC rfl rfl hr52 k.1 ?_
  replace k := k.2
  show pm_Ex ro m_L_law 806 [.ref 52, .ref 0, .ref 33, .int x3] [.int (rf52 (x3 + 1).toNatClampNeg), .ref 0] mem Q
  refine ex_many (pc' := 810) (ls' := [.ref 52, .ref 0, .ref 33, .int x3]) (st' := [.int (x3 + 2), .ref 52, .int (rf52 (x3 + 1).toNatClampNeg), .ref 0]) (mem' := mem) hS hC 4 rfl ?_
  refine ex_aldR hS hC rfl rfl hr52 k.1 ?_
  replace k := k.2
  show pm_Ex ro m_L_law 811 [.ref 52, .ref 0, .ref 33, .int x3] [.int (rf52 (x3 + 2).toNatClampNeg), .int (rf52 (x3 + 1).toNatClampNeg), .ref 0] mem Q
  refine ex_many (pc' := 815) (ls' := [.ref 52, .ref 0, .ref 33, .int x3]) (st' := [.int (x3 + 3), .ref 52, .int (rf52 (x3 + 2).toNatClampNeg), .int (rf52 (x3 + 1).toNatClampNeg), .ref 0]) (mem' := mem) hS hC 4 rfl ?_
  refine ex_aldR hS hC rfl rfl hr52 k.1 ?_
  replace k := k.2
  show pm_Ex ro m_L_law 816 [.ref 52, .ref 0, .ref 33, .int x3] [.int (rf52 (x3 + 3).toNatClampNeg), .int (rf52 (x3 + 2).toNatClampNeg), .int (rf52 (x3 + 1).toNatClampNeg), .ref 0] mem Q
  refine ex_many (pc' := 820) (ls' := [.ref 52, .ref 0, .ref 33, .int x3]) (st' := [.int (x3 + 4), .ref 52, .int (rf52 (x3 + 3).toNatClampNeg), .int (rf52 (x3 + 2).toNatClampNeg), .int (rf52 (x3 + 1).toNatClampNeg), .ref 0]) (mem' := mem) hS hC 4 rfl ?_
  refine ex_aldR hS hC rfl rfl hr52 k.1 ?_
  replace k := k.2
  show pm_Ex ro m_L_law 821 [.ref 52, .ref 0, .ref 33, .int x3] [.int (rf52 (x3 + 4).toNatClampNeg), .int (rf52 (x3 + 3).toNatClampNeg), .int (rf52 (x3 + 2).toNatClampNeg), .int (rf52 (x3 + 1).toNatClampNeg), .ref 0] mem Q
  refine ex_call (y' := m_X9_lay) (rest := []) (ent := [.ref 0, .int (rf52 (x3 + 1).toNatClampNeg), .int (rf52 (x3 + 2).toNatClampNeg), .int (rf52 (x3 + 3).toNatClampNeg), .int (rf52 (x3 + 4).toNatClampNeg), .null]) hS hC rfl rfl rfl rfl rfl rfl ?_
  exact k

set_option maxRecDepth 20000 in
theorem bk_L_law_33_c22 {ro : pm_RO} {Q : Option Value → pm_M → Prop} {mem : pm_M} {L : Nat} {rf52 : Nat → Int32} (hr52 : ro 52 = some (L, rf52)) {x3 : Int32} (k : (pm_inb (x3 + 1) L = true) ∧ ((pm_inb (x3 + 2) L = true) ∧ ((pm_inb (x3 + 3) L = true) ∧ (pm_Ex ro m_X9_get 0 [.ref 0, .int (rf52 (x3 + 1).toNatClampNeg), .int (rf52 (x3 + 2).toNatClampNeg), .int (rf52 (x3 + 3).toNatClampNeg), .null] [] mem (fun v m => pm_Ex ro m_L_law 872 [.ref 52, .ref 0, .ref 33, .int x3] (v.toList ++ []) m Q))))) : pm_Ex ro m_L_law 33 [.ref 52, .ref 0, .ref 33, .int x3] [.int 22] mem Q := by
  have hS : pm_sig[m_L_law]? = some _ := rfl
  have hC : pm_cod[m_L_law]? = some _ := rfl
  refine ex_one (pc' := 853) (ls' := [.ref 52, .ref 0, .ref 33, .int x3]) (st' := []) (mem' := mem) hS hC rfl ?_
  refine ex_many (pc' := 858) (ls' := [.ref 52, .ref 0, .ref 33, .int x3]) (st' := [.int (x3 + 1), .ref 52, .ref 0]) (mem' := mem) hS hC 5 rfl ?_
  refine ex_aldR hS hC rfl rfl hr52 k.1 ?_
  replace k := k.2
  show pm_Ex ro m_L_law 859 [.ref 52, .ref 0, .ref 33, .int x3] [.int (rf52 (x3 + 1).toNatClampNeg), .ref 0] mem Q
  refine ex_many (pc' := 863) (ls' := [.ref 52, .ref 0, .ref 33, .int x3]) (st' := [.int (x3 + 2), .ref 52, .int (rf52 (x3 + 1).toNatClampNeg), .ref 0]) (mem' := mem) hS hC 4 rfl ?_
  refine ex_aldR hS hC rfl rfl hr52 k.1 ?_
  replace k := k.2
  show pm_Ex ro m_L_law 864 [.ref 52, .ref 0, .ref 33, .int x3] [.int (rf52 (x3 + 2).toNatClampNeg), .int (rf52 (x3 + 1).toNatClampNeg), .ref 0] mem Q
  refine ex_many (pc' := 868) (ls' := [.ref 52, .ref 0, .ref 33, .int x3]) (st' := [.int (x3 + 3), .ref 52, .int (rf52 (x3 + 2).toNatClampNeg), .int (rf52 (x3 + 1).toNatClampNeg), .ref 0]) (mem' := mem) hS hC 4 rfl ?_
  refine ex_aldR hS hC rfl rfl hr52 k.1 ?_
  replace k := k.2
  show pm_Ex ro m_L_law 869 [.ref 52, .ref 0, .ref 33, .int x3] [.int (rf52 (x3 + 3).toNatClampNeg), .int (rf52 (x3 + 2).toNatClampNeg), .int (rf52 (x3 + 1).toNatClampNeg), .ref 0] mem Q
  refine ex_call (y' := m_X9_get) (rest := []) (ent := [.ref 0, .int (rf52 (x3 + 1).toNatClampNeg), .int (rf52 (x3 + 2).toNatClampNeg), .int (rf52 (x3 + 3).toNatClampNeg), .null]) hS hC rfl rfl rfl rfl rfl rfl ?_
  exact k

set_option maxRecDepth 20000 in
theorem bk_L_law_33_c23 {ro : pm_RO} {Q : Option Value → pm_M → Prop} {mem : pm_M} {L : Nat} {rf52 : Nat → Int32} (hr52 : ro 52 = some (L, rf52)) {x3 : Int32} (k : (pm_inb (x3 + 1) L = true) ∧ ((pm_inb (x3 + 2) L = true) ∧ ((pm_inb (x3 + 3) L = true) ∧ ((pm_inb (x3 + 4) L = true) ∧ ((pm_inb (x3 + 5) L = true) ∧ (pm_Ex ro m_X9_copy 0 [.ref 0, .int (rf52 (x3 + 1).toNatClampNeg), .int (rf52 (x3 + 2).toNatClampNeg), .int (rf52 (x3 + 3).toNatClampNeg), .int (rf52 (x3 + 4).toNatClampNeg), .int (rf52 (x3 + 5).toNatClampNeg), .null, .null] [] mem (fun v m => pm_Ex ro m_L_law 925 [.ref 52, .ref 0, .ref 33, .int x3] (v.toList ++ []) m Q))))))) : pm_Ex ro m_L_law 33 [.ref 52, .ref 0, .ref 33, .int x3] [.int 23] mem Q := by
  have hS : pm_sig[m_L_law]? = some _ := rfl
  have hC : pm_cod[m_L_law]? = some _ := rfl
  refine ex_one (pc' := 896) (ls' := [.ref 52, .ref 0, .ref 33, .int x3]) (st' := []) (mem' := mem) hS hC rfl ?_
  refine ex_many (pc' := 901) (ls' := [.ref 52, .ref 0, .ref 33, .int x3]) (st' := [.int (x3 + 1), .ref 52, .ref 0]) (mem' := mem) hS hC 5 rfl ?_
  refine ex_aldR hS hC rfl rfl hr52 k.1 ?_
  replace k := k.2
  show pm_Ex ro m_L_law 902 [.ref 52, .ref 0, .ref 33, .int x3] [.int (rf52 (x3 + 1).toNatClampNeg), .ref 0] mem Q
  refine ex_many (pc' := 906) (ls' := [.ref 52, .ref 0, .ref 33, .int x3]) (st' := [.int (x3 + 2), .ref 52, .int (rf52 (x3 + 1).toNatClampNeg), .ref 0]) (mem' := mem) hS hC 4 rfl ?_
  refine ex_aldR hS hC rfl rfl hr52 k.1 ?_
  replace k := k.2
  show pm_Ex ro m_L_law 907 [.ref 52, .ref 0, .ref 33, .int x3] [.int (rf52 (x3 + 2).toNatClampNeg), .int (rf52 (x3 + 1).toNatClampNeg), .ref 0] mem Q
  refine ex_many (pc' := 911) (ls' := [.ref 52, .ref 0, .ref 33, .int x3]) (st' := [.int (x3 + 3), .ref 52, .int (rf52 (x3 + 2).toNatClampNeg), .int (rf52 (x3 + 1).toNatClampNeg), .ref 0]) (mem' := mem) hS hC 4 rfl ?_
  refine ex_aldR hS hC rfl rfl hr52 k.1 ?_
  replace k := k.2
  show pm_Ex ro m_L_law 912 [.ref 52, .ref 0, .ref 33, .int x3] [.int (rf52 (x3 + 3).toNatClampNeg), .int (rf52 (x3 + 2).toNatClampNeg), .int (rf52 (x3 + 1).toNatClampNeg), .ref 0] mem Q
  refine ex_many (pc' := 916) (ls' := [.ref 52, .ref 0, .ref 33, .int x3]) (st' := [.int (x3 + 4), .ref 52, .int (rf52 (x3 + 3).toNatClampNeg), .int (rf52 (x3 + 2).toNatClampNeg), .int (rf52 (x3 + 1).toNatClampNeg), .ref 0]) (mem' := mem) hS hC 4 rfl ?_
  refine ex_aldR hS hC rfl rfl hr52 k.1 ?_
  replace k := k.2
  show pm_Ex ro m_L_law 917 [.ref 52, .ref 0, .ref 33, .int x3] [.int (rf52 (x3 + 4).toNatClampNeg), .int (rf52 (x3 + 3).toNatClampNeg), .int (rf52 (x3 + 2).toNatClampNeg), .int (rf52 (x3 + 1).toNatClampNeg), .ref 0] mem Q
  refine ex_many (pc' := 921) (ls' := [.ref 52, .ref 0, .ref 33, .int x3]) (st' := [.int (x3 + 5), .ref 52, .int (rf52 (x3 + 4).toNatClampNeg), .int (rf52 (x3 + 3).toNatClampNeg), .int (rf52 (x3 + 2).toNatClampNeg), .int (rf52 (x3 + 1).toNatClampNeg), .ref 0]) (mem' := mem) hS hC 4 rfl ?_
  refine ex_aldR hS hC rfl rfl hr52 k.1 ?_
  replace k := k.2
  show pm_Ex ro m_L_law 922 [.ref 52, .ref 0, .ref 33, .int x3] [.int (rf52 (x3 + 5).toNatClampNeg), .int (rf52 (x3 + 4).toNatClampNeg), .int (rf52 (x3 + 3).toNatClampNeg), .int (rf52 (x3 + 2).toNatClampNeg), .int (rf52 (x3 + 1).toNatClampNeg), .ref 0] mem Q
  refine ex_call (y' := m_X9_copy) (rest := []) (ent := [.ref 0, .int (rf52 (x3 + 1).toNatClampNeg), .int (rf52 (x3 + 2).toNatClampNeg), .int (rf52 (x3 + 3).toNatClampNeg), .int (rf52 (x3 + 4).toNatClampNeg), .int (rf52 (x3 + 5).toNatClampNeg), .null, .null]) hS hC rfl rfl rfl rfl rfl rfl ?_
  exact k

set_option maxRecDepth 20000 in
theorem bk_L_law_33_c24 {ro : pm_RO} {Q : Option Value → pm_M → Prop} {mem : pm_M} {L : Nat} {rf52 : Nat → Int32} (hr52 : ro 52 = some (L, rf52)) {x3 : Int32} (k : (pm_inb (x3 + 1) L = true) ∧ ((pm_inb (x3 + 2) L = true) ∧ (pm_Ex ro m_X9_write 0 [.ref 0, .int (rf52 (x3 + 1).toNatClampNeg), .int (rf52 (x3 + 2).toNatClampNeg), .null, .null, .null, .null] [] mem (fun v m => pm_Ex ro m_L_law 973 [.ref 52, .ref 0, .ref 33, .int x3] (v.toList ++ []) m Q)))) : pm_Ex ro m_L_law 33 [.ref 52, .ref 0, .ref 33, .int x3] [.int 24] mem Q := by
  have hS : pm_sig[m_L_law]? = some _ := rfl
  have hC : pm_cod[m_L_law]? = some _ := rfl
  refine ex_one (pc' := 959) (ls' := [.ref 52, .ref 0, .ref 33, .int x3]) (st' := []) (mem' := mem) hS hC rfl ?_
  refine ex_many (pc' := 964) (ls' := [.ref 52, .ref 0, .ref 33, .int x3]) (st' := [.int (x3 + 1), .ref 52, .ref 0]) (mem' := mem) hS hC 5 rfl ?_
  refine ex_aldR hS hC rfl rfl hr52 k.1 ?_
  replace k := k.2
  show pm_Ex ro m_L_law 965 [.ref 52, .ref 0, .ref 33, .int x3] [.int (rf52 (x3 + 1).toNatClampNeg), .ref 0] mem Q
  refine ex_many (pc' := 969) (ls' := [.ref 52, .ref 0, .ref 33, .int x3]) (st' := [.int (x3 + 2), .ref 52, .int (rf52 (x3 + 1).toNatClampNeg), .ref 0]) (mem' := mem) hS hC 4 rfl ?_
  refine ex_aldR hS hC rfl rfl hr52 k.1 ?_
  replace k := k.2
  show pm_Ex ro m_L_law 970 [.ref 52, .ref 0, .ref 33, .int x3] [.int (rf52 (x3 + 2).toNatClampNeg), .int (rf52 (x3 + 1).toNatClampNeg), .ref 0] mem Q
  refine ex_call (y' := m_X9_write) (rest := []) (ent := [.ref 0, .int (rf52 (x3 + 1).toNatClampNeg), .int (rf52 (x3 + 2).toNatClampNeg), .null, .null, .null, .null]) hS hC rfl rfl rfl rfl rfl rfl ?_
  exact k

set_option maxRecDepth 20000 in
theorem bk_L_law_33_c25 {ro : pm_RO} {Q : Option Value → pm_M → Prop} {mem : pm_M} {L : Nat} {rf52 : Nat → Int32} (hr52 : ro 52 = some (L, rf52)) {x3 : Int32} (k : (pm_inb (x3 + 1) L = true) ∧ (pm_Ex ro m_X9_count 0 [.ref 0, .int (rf52 (x3 + 1).toNatClampNeg)] [] mem (fun v m => pm_Ex ro m_L_law 1001 [.ref 52, .ref 0, .ref 33, .int x3] (v.toList ++ []) m Q))) : pm_Ex ro m_L_law 33 [.ref 52, .ref 0, .ref 33, .int x3] [.int 25] mem Q := by
  have hS : pm_sig[m_L_law]? = some _ := rfl
  have hC : pm_cod[m_L_law]? = some _ := rfl
  refine ex_one (pc' := 992) (ls' := [.ref 52, .ref 0, .ref 33, .int x3]) (st' := []) (mem' := mem) hS hC rfl ?_
  refine ex_many (pc' := 997) (ls' := [.ref 52, .ref 0, .ref 33, .int x3]) (st' := [.int (x3 + 1), .ref 52, .ref 0]) (mem' := mem) hS hC 5 rfl ?_
  refine ex_aldR hS hC rfl rfl hr52 k.1 ?_
  replace k := k.2
  show pm_Ex ro m_L_law 998 [.ref 52, .ref 0, .ref 33, .int x3] [.int (rf52 (x3 + 1).toNatClampNeg), .ref 0] mem Q
  refine ex_call (y' := m_X9_count) (rest := []) (ent := [.ref 0, .int (rf52 (x3 + 1).toNatClampNeg)]) hS hC rfl rfl rfl rfl rfl rfl ?_
  exact k

set_option maxRecDepth 20000 in
theorem bk_L_law_33_c26 {ro : pm_RO} {Q : Option Value → pm_M → Prop} {mem : pm_M} {x3 : Int32} (k : pm_Ex ro m_X9_digest 0 [.ref 0, .null, .null, .null] [] mem (fun v m => pm_Ex ro m_L_law 1019 [.ref 52, .ref 0, .ref 33, .int x3] (v.toList ++ []) m Q)) : pm_Ex ro m_L_law 33 [.ref 52, .ref 0, .ref 33, .int x3] [.int 26] mem Q := by
  have hS : pm_sig[m_L_law]? = some _ := rfl
  have hC : pm_cod[m_L_law]? = some _ := rfl
  refine ex_one (pc' := 1015) (ls' := [.ref 52, .ref 0, .ref 33, .int x3]) (st' := []) (mem' := mem) hS hC rfl ?_
  refine ex_many (pc' := 1016) (ls' := [.ref 52, .ref 0, .ref 33, .int x3]) (st' := [.ref 0]) (mem' := mem) hS hC 1 rfl ?_
  refine ex_call (y' := m_X9_digest) (rest := []) (ent := [.ref 0, .null, .null, .null]) hS hC rfl rfl rfl rfl rfl rfl ?_
  exact k

set_option maxRecDepth 20000 in
theorem bk_L_law_33_d {ro : pm_RO} {Q : Option Value → pm_M → Prop} {mem : pm_M} {x3 s0 : Int32} (h0 : ¬ s0 = 0) (h1 : ¬ s0 = 1) (h2 : ¬ s0 = 2) (h3 : ¬ s0 = 3) (h4 : ¬ s0 = 4) (h5 : ¬ s0 = 5) (h6 : ¬ s0 = 6) (h7 : ¬ s0 = 7) (h8 : ¬ s0 = 8) (h9 : ¬ s0 = 9) (h10 : ¬ s0 = 10) (h11 : ¬ s0 = 11) (h12 : ¬ s0 = 12) (h13 : ¬ s0 = 13) (h14 : ¬ s0 = 14) (h15 : ¬ s0 = 15) (h16 : ¬ s0 = 16) (h17 : ¬ s0 = 17) (h18 : ¬ s0 = 18) (h19 : ¬ s0 = 19) (h20 : ¬ s0 = 20) (h21 : ¬ s0 = 21) (h22 : ¬ s0 = 22) (h23 : ¬ s0 = 23) (h24 : ¬ s0 = 24) (h25 : ¬ s0 = 25) (h26 : ¬ s0 = 26) (k : pm_Ex ro m_L_law 18 [.ref 52, .ref 0, .ref 33, .int (x3 + 6)] [] mem Q) : pm_Ex ro m_L_law 33 [.ref 52, .ref 0, .ref 33, .int x3] [.int s0] mem Q := by
  have hS : pm_sig[m_L_law]? = some _ := rfl
  have hC : pm_cod[m_L_law]? = some _ := rfl
  refine ex_tswd hS hC rfl (a := 1029) rfl (pm_out27 h0 h1 h2 h3 h4 h5 h6 h7 h8 h9 h10 h11 h12 h13 h14 h15 h16 h17 h18 h19 h20 h21 h22 h23 h24 h25 h26) ?_
  refine ex_many (pc' := 18) (ls' := [.ref 52, .ref 0, .ref 33, .int (x3 + 6)]) (st' := []) (mem' := mem) hS hC 2 rfl ?_
  exact k

set_option maxRecDepth 20000 in
theorem bk_L_law_165 {ro : pm_RO} {Q : Option Value → pm_M → Prop} {mem : pm_M} {L : Nat} {rf52 : Nat → Int32} (hr52 : ro 52 = some (L, rf52)) {x3 s0 : Int32} (k : (pm_inb (x3 + 1) L = true) ∧ (pm_Ex ro m_X10_type 0 [.ref 33, .int (rf52 (x3 + 1).toNatClampNeg)] [] mem (fun v m => pm_Ex ro m_L_law 174 [.ref 52, .ref 0, .ref 33, .int x3] (v.toList ++ [.int s0]) m Q))) : pm_Ex ro m_L_law 165 [.ref 52, .ref 0, .ref 33, .int x3] [.int s0] mem Q := by
  have hS : pm_sig[m_L_law]? = some _ := rfl
  have hC : pm_cod[m_L_law]? = some _ := rfl
  refine ex_many (pc' := 170) (ls' := [.ref 52, .ref 0, .ref 33, .int x3]) (st' := [.int (x3 + 1), .ref 52, .ref 33, .int s0]) (mem' := mem) hS hC 5 rfl ?_
  refine ex_aldR hS hC rfl rfl hr52 k.1 ?_
  replace k := k.2
  show pm_Ex ro m_L_law 171 [.ref 52, .ref 0, .ref 33, .int x3] [.int (rf52 (x3 + 1).toNatClampNeg), .ref 33, .int s0] mem Q
  refine ex_call (y' := m_X10_type) (rest := [.int s0]) (ent := [.ref 33, .int (rf52 (x3 + 1).toNatClampNeg)]) hS hC rfl rfl rfl rfl rfl rfl ?_
  exact k

set_option maxRecDepth 20000 in
theorem bk_L_law_183 {ro : pm_RO} {Q : Option Value → pm_M → Prop} {mem : pm_M} {x3 s0 : Int32} (k : pm_Ex ro m_X10_wipe 0 [.ref 33, .null] [] mem (fun v m => pm_Ex ro m_L_law 187 [.ref 52, .ref 0, .ref 33, .int x3] (v.toList ++ [.int s0]) m Q)) : pm_Ex ro m_L_law 183 [.ref 52, .ref 0, .ref 33, .int x3] [.int s0] mem Q := by
  have hS : pm_sig[m_L_law]? = some _ := rfl
  have hC : pm_cod[m_L_law]? = some _ := rfl
  refine ex_many (pc' := 184) (ls' := [.ref 52, .ref 0, .ref 33, .int x3]) (st' := [.ref 33, .int s0]) (mem' := mem) hS hC 1 rfl ?_
  refine ex_call (y' := m_X10_wipe) (rest := [.int s0]) (ent := [.ref 33, .null]) hS hC rfl rfl rfl rfl rfl rfl ?_
  exact k

set_option maxRecDepth 20000 in
theorem bk_L_law_196 {ro : pm_RO} {Q : Option Value → pm_M → Prop} {mem : pm_M} {x3 s0 : Int32} (k : pm_Ex ro m_X10_fault 0 [.ref 33] [] mem (fun v m => pm_Ex ro m_L_law 200 [.ref 52, .ref 0, .ref 33, .int x3] (v.toList ++ [.int s0]) m Q)) : pm_Ex ro m_L_law 196 [.ref 52, .ref 0, .ref 33, .int x3] [.int s0] mem Q := by
  have hS : pm_sig[m_L_law]? = some _ := rfl
  have hC : pm_cod[m_L_law]? = some _ := rfl
  refine ex_many (pc' := 197) (ls' := [.ref 52, .ref 0, .ref 33, .int x3]) (st' := [.ref 33, .int s0]) (mem' := mem) hS hC 1 rfl ?_
  refine ex_call (y' := m_X10_fault) (rest := [.int s0]) (ent := [.ref 33]) hS hC rfl rfl rfl rfl rfl rfl ?_
  exact k

set_option maxRecDepth 20000 in
theorem bk_L_law_219 {ro : pm_RO} {Q : Option Value → pm_M → Prop} {mem : pm_M} {L : Nat} {rf52 : Nat → Int32} (hr52 : ro 52 = some (L, rf52)) {x3 s0 : Int32} (k : (pm_inb (x3 + 1) L = true) ∧ ((pm_inb (x3 + 2) L = true) ∧ (pm_Ex ro m_X10_good 0 [.ref 33, .int (rf52 (x3 + 1).toNatClampNeg), .int (rf52 (x3 + 2).toNatClampNeg)] [] mem (fun v m => pm_Ex ro m_L_law 233 [.ref 52, .ref 0, .ref 33, .int x3] (v.toList ++ [.int s0]) m Q)))) : pm_Ex ro m_L_law 219 [.ref 52, .ref 0, .ref 33, .int x3] [.int s0] mem Q := by
  have hS : pm_sig[m_L_law]? = some _ := rfl
  have hC : pm_cod[m_L_law]? = some _ := rfl
  refine ex_many (pc' := 224) (ls' := [.ref 52, .ref 0, .ref 33, .int x3]) (st' := [.int (x3 + 1), .ref 52, .ref 33, .int s0]) (mem' := mem) hS hC 5 rfl ?_
  refine ex_aldR hS hC rfl rfl hr52 k.1 ?_
  replace k := k.2
  show pm_Ex ro m_L_law 225 [.ref 52, .ref 0, .ref 33, .int x3] [.int (rf52 (x3 + 1).toNatClampNeg), .ref 33, .int s0] mem Q
  refine ex_many (pc' := 229) (ls' := [.ref 52, .ref 0, .ref 33, .int x3]) (st' := [.int (x3 + 2), .ref 52, .int (rf52 (x3 + 1).toNatClampNeg), .ref 33, .int s0]) (mem' := mem) hS hC 4 rfl ?_
  refine ex_aldR hS hC rfl rfl hr52 k.1 ?_
  replace k := k.2
  show pm_Ex ro m_L_law 230 [.ref 52, .ref 0, .ref 33, .int x3] [.int (rf52 (x3 + 2).toNatClampNeg), .int (rf52 (x3 + 1).toNatClampNeg), .ref 33, .int s0] mem Q
  refine ex_call (y' := m_X10_good) (rest := [.int s0]) (ent := [.ref 33, .int (rf52 (x3 + 1).toNatClampNeg), .int (rf52 (x3 + 2).toNatClampNeg)]) hS hC rfl rfl rfl rfl rfl rfl ?_
  exact k

set_option maxRecDepth 20000 in
theorem bk_L_law_252 {ro : pm_RO} {Q : Option Value → pm_M → Prop} {mem : pm_M} {L : Nat} {rf52 : Nat → Int32} (hr52 : ro 52 = some (L, rf52)) {x3 s0 : Int32} (k : (pm_inb (x3 + 1) L = true) ∧ ((pm_inb (x3 + 2) L = true) ∧ (pm_Ex ro m_X10_set 0 [.ref 33, .int (rf52 (x3 + 1).toNatClampNeg), .int (rf52 (x3 + 2).toNatClampNeg), .null, .null, .null] [] mem (fun v m => pm_Ex ro m_L_law 266 [.ref 52, .ref 0, .ref 33, .int x3] (v.toList ++ [.int s0]) m Q)))) : pm_Ex ro m_L_law 252 [.ref 52, .ref 0, .ref 33, .int x3] [.int s0] mem Q := by
  have hS : pm_sig[m_L_law]? = some _ := rfl
  have hC : pm_cod[m_L_law]? = some _ := rfl
  refine ex_many (pc' := 257) (ls' := [.ref 52, .ref 0, .ref 33, .int x3]) (st' := [.int (x3 + 1), .ref 52, .ref 33, .int s0]) (mem' := mem) hS hC 5 rfl ?_
  refine ex_aldR hS hC rfl rfl hr52 k.1 ?_
  replace k := k.2
  show pm_Ex ro m_L_law 258 [.ref 52, .ref 0, .ref 33, .int x3] [.int (rf52 (x3 + 1).toNatClampNeg), .ref 33, .int s0] mem Q
  refine ex_many (pc' := 262) (ls' := [.ref 52, .ref 0, .ref 33, .int x3]) (st' := [.int (x3 + 2), .ref 52, .int (rf52 (x3 + 1).toNatClampNeg), .ref 33, .int s0]) (mem' := mem) hS hC 4 rfl ?_
  refine ex_aldR hS hC rfl rfl hr52 k.1 ?_
  replace k := k.2
  show pm_Ex ro m_L_law 263 [.ref 52, .ref 0, .ref 33, .int x3] [.int (rf52 (x3 + 2).toNatClampNeg), .int (rf52 (x3 + 1).toNatClampNeg), .ref 33, .int s0] mem Q
  refine ex_call (y' := m_X10_set) (rest := [.int s0]) (ent := [.ref 33, .int (rf52 (x3 + 1).toNatClampNeg), .int (rf52 (x3 + 2).toNatClampNeg), .null, .null, .null]) hS hC rfl rfl rfl rfl rfl rfl ?_
  exact k

set_option maxRecDepth 20000 in
theorem bk_L_law_285 {ro : pm_RO} {Q : Option Value → pm_M → Prop} {mem : pm_M} {L : Nat} {rf52 : Nat → Int32} (hr52 : ro 52 = some (L, rf52)) {x3 s0 : Int32} (k : (pm_inb (x3 + 1) L = true) ∧ ((pm_inb (x3 + 2) L = true) ∧ (pm_Ex ro m_X10_partner 0 [.ref 33, .int (rf52 (x3 + 1).toNatClampNeg), .int (rf52 (x3 + 2).toNatClampNeg), .null] [] mem (fun v m => pm_Ex ro m_L_law 299 [.ref 52, .ref 0, .ref 33, .int x3] (v.toList ++ [.int s0]) m Q)))) : pm_Ex ro m_L_law 285 [.ref 52, .ref 0, .ref 33, .int x3] [.int s0] mem Q := by
  have hS : pm_sig[m_L_law]? = some _ := rfl
  have hC : pm_cod[m_L_law]? = some _ := rfl
  refine ex_many (pc' := 290) (ls' := [.ref 52, .ref 0, .ref 33, .int x3]) (st' := [.int (x3 + 1), .ref 52, .ref 33, .int s0]) (mem' := mem) hS hC 5 rfl ?_
  refine ex_aldR hS hC rfl rfl hr52 k.1 ?_
  replace k := k.2
  show pm_Ex ro m_L_law 291 [.ref 52, .ref 0, .ref 33, .int x3] [.int (rf52 (x3 + 1).toNatClampNeg), .ref 33, .int s0] mem Q
  refine ex_many (pc' := 295) (ls' := [.ref 52, .ref 0, .ref 33, .int x3]) (st' := [.int (x3 + 2), .ref 52, .int (rf52 (x3 + 1).toNatClampNeg), .ref 33, .int s0]) (mem' := mem) hS hC 4 rfl ?_
  refine ex_aldR hS hC rfl rfl hr52 k.1 ?_
  replace k := k.2
  show pm_Ex ro m_L_law 296 [.ref 52, .ref 0, .ref 33, .int x3] [.int (rf52 (x3 + 2).toNatClampNeg), .int (rf52 (x3 + 1).toNatClampNeg), .ref 33, .int s0] mem Q
  refine ex_call (y' := m_X10_partner) (rest := [.int s0]) (ent := [.ref 33, .int (rf52 (x3 + 1).toNatClampNeg), .int (rf52 (x3 + 2).toNatClampNeg), .null]) hS hC rfl rfl rfl rfl rfl rfl ?_
  exact k

set_option maxRecDepth 20000 in
theorem bk_L_law_313 {ro : pm_RO} {Q : Option Value → pm_M → Prop} {mem : pm_M} {L : Nat} {rf52 : Nat → Int32} (hr52 : ro 52 = some (L, rf52)) {x3 s0 : Int32} (k : (pm_inb (x3 + 1) L = true) ∧ (pm_Ex ro m_X10_read 0 [.ref 33, .int (rf52 (x3 + 1).toNatClampNeg), .null] [] mem (fun v m => pm_Ex ro m_L_law 322 [.ref 52, .ref 0, .ref 33, .int x3] (v.toList ++ [.int s0]) m Q))) : pm_Ex ro m_L_law 313 [.ref 52, .ref 0, .ref 33, .int x3] [.int s0] mem Q := by
  have hS : pm_sig[m_L_law]? = some _ := rfl
  have hC : pm_cod[m_L_law]? = some _ := rfl
  refine ex_many (pc' := 318) (ls' := [.ref 52, .ref 0, .ref 33, .int x3]) (st' := [.int (x3 + 1), .ref 52, .ref 33, .int s0]) (mem' := mem) hS hC 5 rfl ?_
  refine ex_aldR hS hC rfl rfl hr52 k.1 ?_
  replace k := k.2
  show pm_Ex ro m_L_law 319 [.ref 52, .ref 0, .ref 33, .int x3] [.int (rf52 (x3 + 1).toNatClampNeg), .ref 33, .int s0] mem Q
  refine ex_call (y' := m_X10_read) (rest := [.int s0]) (ent := [.ref 33, .int (rf52 (x3 + 1).toNatClampNeg), .null]) hS hC rfl rfl rfl rfl rfl rfl ?_
  exact k

set_option maxRecDepth 20000 in
theorem bk_L_law_336 {ro : pm_RO} {Q : Option Value → pm_M → Prop} {mem : pm_M} {L : Nat} {rf52 : Nat → Int32} (hr52 : ro 52 = some (L, rf52)) {x3 s0 : Int32} (k : (pm_inb (x3 + 1) L = true) ∧ (pm_Ex ro m_X10_paid 0 [.ref 33, .int (rf52 (x3 + 1).toNatClampNeg)] [] mem (fun v m => pm_Ex ro m_L_law 345 [.ref 52, .ref 0, .ref 33, .int x3] (v.toList ++ [.int s0]) m Q))) : pm_Ex ro m_L_law 336 [.ref 52, .ref 0, .ref 33, .int x3] [.int s0] mem Q := by
  have hS : pm_sig[m_L_law]? = some _ := rfl
  have hC : pm_cod[m_L_law]? = some _ := rfl
  refine ex_many (pc' := 341) (ls' := [.ref 52, .ref 0, .ref 33, .int x3]) (st' := [.int (x3 + 1), .ref 52, .ref 33, .int s0]) (mem' := mem) hS hC 5 rfl ?_
  refine ex_aldR hS hC rfl rfl hr52 k.1 ?_
  replace k := k.2
  show pm_Ex ro m_L_law 342 [.ref 52, .ref 0, .ref 33, .int x3] [.int (rf52 (x3 + 1).toNatClampNeg), .ref 33, .int s0] mem Q
  refine ex_call (y' := m_X10_paid) (rest := [.int s0]) (ent := [.ref 33, .int (rf52 (x3 + 1).toNatClampNeg)]) hS hC rfl rfl rfl rfl rfl rfl ?_
  exact k

set_option maxRecDepth 20000 in
theorem bk_L_law_364 {ro : pm_RO} {Q : Option Value → pm_M → Prop} {mem : pm_M} {L : Nat} {rf52 : Nat → Int32} (hr52 : ro 52 = some (L, rf52)) {x3 s0 : Int32} (k : (pm_inb (x3 + 1) L = true) ∧ ((pm_inb (x3 + 2) L = true) ∧ (pm_Ex ro m_X10_bill 0 [.ref 33, .int (rf52 (x3 + 1).toNatClampNeg), .int (rf52 (x3 + 2).toNatClampNeg)] [] mem (fun v m => pm_Ex ro m_L_law 378 [.ref 52, .ref 0, .ref 33, .int x3] (v.toList ++ [.int s0]) m Q)))) : pm_Ex ro m_L_law 364 [.ref 52, .ref 0, .ref 33, .int x3] [.int s0] mem Q := by
  have hS : pm_sig[m_L_law]? = some _ := rfl
  have hC : pm_cod[m_L_law]? = some _ := rfl
  refine ex_many (pc' := 369) (ls' := [.ref 52, .ref 0, .ref 33, .int x3]) (st' := [.int (x3 + 1), .ref 52, .ref 33, .int s0]) (mem' := mem) hS hC 5 rfl ?_
  refine ex_aldR hS hC rfl rfl hr52 k.1 ?_
  replace k := k.2
  show pm_Ex ro m_L_law 370 [.ref 52, .ref 0, .ref 33, .int x3] [.int (rf52 (x3 + 1).toNatClampNeg), .ref 33, .int s0] mem Q
  refine ex_many (pc' := 374) (ls' := [.ref 52, .ref 0, .ref 33, .int x3]) (st' := [.int (x3 + 2), .ref 52, .int (rf52 (x3 + 1).toNatClampNeg), .ref 33, .int s0]) (mem' := mem) hS hC 4 rfl ?_
  refine ex_aldR hS hC rfl rfl hr52 k.1 ?_
  replace k := k.2
  show pm_Ex ro m_L_law 375 [.ref 52, .ref 0, .ref 33, .int x3] [.int (rf52 (x3 + 2).toNatClampNeg), .int (rf52 (x3 + 1).toNatClampNeg), .ref 33, .int s0] mem Q
  refine ex_call (y' := m_X10_bill) (rest := [.int s0]) (ent := [.ref 33, .int (rf52 (x3 + 1).toNatClampNeg), .int (rf52 (x3 + 2).toNatClampNeg)]) hS hC rfl rfl rfl rfl rfl rfl ?_
  exact k

set_option maxRecDepth 20000 in
theorem bk_L_law_392 {ro : pm_RO} {Q : Option Value → pm_M → Prop} {mem : pm_M} {L : Nat} {rf52 : Nat → Int32} (hr52 : ro 52 = some (L, rf52)) {x3 s0 : Int32} (k : (pm_inb (x3 + 1) L = true) ∧ (pm_Ex ro m_X10_bought 0 [.ref 33, .int (rf52 (x3 + 1).toNatClampNeg)] [] mem (fun v m => pm_Ex ro m_L_law 401 [.ref 52, .ref 0, .ref 33, .int x3] (v.toList ++ [.int s0]) m Q))) : pm_Ex ro m_L_law 392 [.ref 52, .ref 0, .ref 33, .int x3] [.int s0] mem Q := by
  have hS : pm_sig[m_L_law]? = some _ := rfl
  have hC : pm_cod[m_L_law]? = some _ := rfl
  refine ex_many (pc' := 397) (ls' := [.ref 52, .ref 0, .ref 33, .int x3]) (st' := [.int (x3 + 1), .ref 52, .ref 33, .int s0]) (mem' := mem) hS hC 5 rfl ?_
  refine ex_aldR hS hC rfl rfl hr52 k.1 ?_
  replace k := k.2
  show pm_Ex ro m_L_law 398 [.ref 52, .ref 0, .ref 33, .int x3] [.int (rf52 (x3 + 1).toNatClampNeg), .ref 33, .int s0] mem Q
  refine ex_call (y' := m_X10_bought) (rest := [.int s0]) (ent := [.ref 33, .int (rf52 (x3 + 1).toNatClampNeg)]) hS hC rfl rfl rfl rfl rfl rfl ?_
  exact k

set_option maxRecDepth 20000 in
theorem bk_L_law_415 {ro : pm_RO} {Q : Option Value → pm_M → Prop} {mem : pm_M} {L : Nat} {rf52 : Nat → Int32} (hr52 : ro 52 = some (L, rf52)) {x3 s0 : Int32} (k : (pm_inb (x3 + 1) L = true) ∧ (pm_Ex ro m_X10_added 0 [.ref 33, .int (rf52 (x3 + 1).toNatClampNeg)] [] mem (fun v m => pm_Ex ro m_L_law 424 [.ref 52, .ref 0, .ref 33, .int x3] (v.toList ++ [.int s0]) m Q))) : pm_Ex ro m_L_law 415 [.ref 52, .ref 0, .ref 33, .int x3] [.int s0] mem Q := by
  have hS : pm_sig[m_L_law]? = some _ := rfl
  have hC : pm_cod[m_L_law]? = some _ := rfl
  refine ex_many (pc' := 420) (ls' := [.ref 52, .ref 0, .ref 33, .int x3]) (st' := [.int (x3 + 1), .ref 52, .ref 33, .int s0]) (mem' := mem) hS hC 5 rfl ?_
  refine ex_aldR hS hC rfl rfl hr52 k.1 ?_
  replace k := k.2
  show pm_Ex ro m_L_law 421 [.ref 52, .ref 0, .ref 33, .int x3] [.int (rf52 (x3 + 1).toNatClampNeg), .ref 33, .int s0] mem Q
  refine ex_call (y' := m_X10_added) (rest := [.int s0]) (ent := [.ref 33, .int (rf52 (x3 + 1).toNatClampNeg)]) hS hC rfl rfl rfl rfl rfl rfl ?_
  exact k

set_option maxRecDepth 20000 in
theorem bk_L_law_443 {ro : pm_RO} {Q : Option Value → pm_M → Prop} {mem : pm_M} {L : Nat} {rf52 : Nat → Int32} (hr52 : ro 52 = some (L, rf52)) {x3 s0 : Int32} (k : (pm_inb (x3 + 1) L = true) ∧ ((pm_inb (x3 + 2) L = true) ∧ (pm_Ex ro m_X10_proof 0 [.ref 33, .int (rf52 (x3 + 1).toNatClampNeg), .int (rf52 (x3 + 2).toNatClampNeg)] [] mem (fun v m => pm_Ex ro m_L_law 457 [.ref 52, .ref 0, .ref 33, .int x3] (v.toList ++ [.int s0]) m Q)))) : pm_Ex ro m_L_law 443 [.ref 52, .ref 0, .ref 33, .int x3] [.int s0] mem Q := by
  have hS : pm_sig[m_L_law]? = some _ := rfl
  have hC : pm_cod[m_L_law]? = some _ := rfl
  refine ex_many (pc' := 448) (ls' := [.ref 52, .ref 0, .ref 33, .int x3]) (st' := [.int (x3 + 1), .ref 52, .ref 33, .int s0]) (mem' := mem) hS hC 5 rfl ?_
  refine ex_aldR hS hC rfl rfl hr52 k.1 ?_
  replace k := k.2
  show pm_Ex ro m_L_law 449 [.ref 52, .ref 0, .ref 33, .int x3] [.int (rf52 (x3 + 1).toNatClampNeg), .ref 33, .int s0] mem Q
  refine ex_many (pc' := 453) (ls' := [.ref 52, .ref 0, .ref 33, .int x3]) (st' := [.int (x3 + 2), .ref 52, .int (rf52 (x3 + 1).toNatClampNeg), .ref 33, .int s0]) (mem' := mem) hS hC 4 rfl ?_
  refine ex_aldR hS hC rfl rfl hr52 k.1 ?_
  replace k := k.2
  show pm_Ex ro m_L_law 454 [.ref 52, .ref 0, .ref 33, .int x3] [.int (rf52 (x3 + 2).toNatClampNeg), .int (rf52 (x3 + 1).toNatClampNeg), .ref 33, .int s0] mem Q
  refine ex_call (y' := m_X10_proof) (rest := [.int s0]) (ent := [.ref 33, .int (rf52 (x3 + 1).toNatClampNeg), .int (rf52 (x3 + 2).toNatClampNeg)]) hS hC rfl rfl rfl rfl rfl rfl ?_
  exact k

set_option maxRecDepth 20000 in
theorem bk_L_law_476 {ro : pm_RO} {Q : Option Value → pm_M → Prop} {mem : pm_M} {L : Nat} {rf52 : Nat → Int32} (hr52 : ro 52 = some (L, rf52)) {x3 s0 : Int32} (k : (pm_inb (x3 + 1) L = true) ∧ ((pm_inb (x3 + 2) L = true) ∧ (pm_Ex ro m_X10_raised 0 [.ref 33, .int (rf52 (x3 + 1).toNatClampNeg), .int (rf52 (x3 + 2).toNatClampNeg)] [] mem (fun v m => pm_Ex ro m_L_law 490 [.ref 52, .ref 0, .ref 33, .int x3] (v.toList ++ [.int s0]) m Q)))) : pm_Ex ro m_L_law 476 [.ref 52, .ref 0, .ref 33, .int x3] [.int s0] mem Q := by
  have hS : pm_sig[m_L_law]? = some _ := rfl
  have hC : pm_cod[m_L_law]? = some _ := rfl
  refine ex_many (pc' := 481) (ls' := [.ref 52, .ref 0, .ref 33, .int x3]) (st' := [.int (x3 + 1), .ref 52, .ref 33, .int s0]) (mem' := mem) hS hC 5 rfl ?_
  refine ex_aldR hS hC rfl rfl hr52 k.1 ?_
  replace k := k.2
  show pm_Ex ro m_L_law 482 [.ref 52, .ref 0, .ref 33, .int x3] [.int (rf52 (x3 + 1).toNatClampNeg), .ref 33, .int s0] mem Q
  refine ex_many (pc' := 486) (ls' := [.ref 52, .ref 0, .ref 33, .int x3]) (st' := [.int (x3 + 2), .ref 52, .int (rf52 (x3 + 1).toNatClampNeg), .ref 33, .int s0]) (mem' := mem) hS hC 4 rfl ?_
  refine ex_aldR hS hC rfl rfl hr52 k.1 ?_
  replace k := k.2
  show pm_Ex ro m_L_law 487 [.ref 52, .ref 0, .ref 33, .int x3] [.int (rf52 (x3 + 2).toNatClampNeg), .int (rf52 (x3 + 1).toNatClampNeg), .ref 33, .int s0] mem Q
  refine ex_call (y' := m_X10_raised) (rest := [.int s0]) (ent := [.ref 33, .int (rf52 (x3 + 1).toNatClampNeg), .int (rf52 (x3 + 2).toNatClampNeg)]) hS hC rfl rfl rfl rfl rfl rfl ?_
  exact k

set_option maxRecDepth 20000 in
theorem bk_L_law_514 {ro : pm_RO} {Q : Option Value → pm_M → Prop} {mem : pm_M} {L : Nat} {rf52 : Nat → Int32} (hr52 : ro 52 = some (L, rf52)) {x3 s0 : Int32} (k : (pm_inb (x3 + 1) L = true) ∧ ((pm_inb (x3 + 2) L = true) ∧ ((pm_inb (x3 + 3) L = true) ∧ (pm_Ex ro m_X10_rounds 0 [.ref 33, .int (rf52 (x3 + 1).toNatClampNeg), .int (rf52 (x3 + 2).toNatClampNeg), .int (rf52 (x3 + 3).toNatClampNeg)] [] mem (fun v m => pm_Ex ro m_L_law 533 [.ref 52, .ref 0, .ref 33, .int x3] (v.toList ++ [.int s0]) m Q))))) : pm_Ex ro m_L_law 514 [.ref 52, .ref 0, .ref 33, .int x3] [.int s0] mem Q := by
  have hS : pm_sig[m_L_law]? = some _ := rfl
  have hC : pm_cod[m_L_law]? = some _ := rfl
  refine ex_many (pc' := 519) (ls' := [.ref 52, .ref 0, .ref 33, .int x3]) (st' := [.int (x3 + 1), .ref 52, .ref 33, .int s0]) (mem' := mem) hS hC 5 rfl ?_
  refine ex_aldR hS hC rfl rfl hr52 k.1 ?_
  replace k := k.2
  show pm_Ex ro m_L_law 520 [.ref 52, .ref 0, .ref 33, .int x3] [.int (rf52 (x3 + 1).toNatClampNeg), .ref 33, .int s0] mem Q
  refine ex_many (pc' := 524) (ls' := [.ref 52, .ref 0, .ref 33, .int x3]) (st' := [.int (x3 + 2), .ref 52, .int (rf52 (x3 + 1).toNatClampNeg), .ref 33, .int s0]) (mem' := mem) hS hC 4 rfl ?_
  refine ex_aldR hS hC rfl rfl hr52 k.1 ?_
  replace k := k.2
  show pm_Ex ro m_L_law 525 [.ref 52, .ref 0, .ref 33, .int x3] [.int (rf52 (x3 + 2).toNatClampNeg), .int (rf52 (x3 + 1).toNatClampNeg), .ref 33, .int s0] mem Q
  refine ex_many (pc' := 529) (ls' := [.ref 52, .ref 0, .ref 33, .int x3]) (st' := [.int (x3 + 3), .ref 52, .int (rf52 (x3 + 2).toNatClampNeg), .int (rf52 (x3 + 1).toNatClampNeg), .ref 33, .int s0]) (mem' := mem) hS hC 4 rfl ?_
  refine ex_aldR hS hC rfl rfl hr52 k.1 ?_
  replace k := k.2
  show pm_Ex ro m_L_law 530 [.ref 52, .ref 0, .ref 33, .int x3] [.int (rf52 (x3 + 3).toNatClampNeg), .int (rf52 (x3 + 2).toNatClampNeg), .int (rf52 (x3 + 1).toNatClampNeg), .ref 33, .int s0] mem Q
  refine ex_call (y' := m_X10_rounds) (rest := [.int s0]) (ent := [.ref 33, .int (rf52 (x3 + 1).toNatClampNeg), .int (rf52 (x3 + 2).toNatClampNeg), .int (rf52 (x3 + 3).toNatClampNeg)]) hS hC rfl rfl rfl rfl rfl rfl ?_
  exact k

set_option maxRecDepth 20000 in
theorem bk_L_law_552 {ro : pm_RO} {Q : Option Value → pm_M → Prop} {mem : pm_M} {L : Nat} {rf52 : Nat → Int32} (hr52 : ro 52 = some (L, rf52)) {x3 s0 : Int32} (k : (pm_inb (x3 + 1) L = true) ∧ ((pm_inb (x3 + 2) L = true) ∧ (pm_Ex ro m_X10_figures 0 [.ref 33, .int (rf52 (x3 + 1).toNatClampNeg), .int (rf52 (x3 + 2).toNatClampNeg)] [] mem (fun v m => pm_Ex ro m_L_law 566 [.ref 52, .ref 0, .ref 33, .int x3] (v.toList ++ [.int s0]) m Q)))) : pm_Ex ro m_L_law 552 [.ref 52, .ref 0, .ref 33, .int x3] [.int s0] mem Q := by
  have hS : pm_sig[m_L_law]? = some _ := rfl
  have hC : pm_cod[m_L_law]? = some _ := rfl
  refine ex_many (pc' := 557) (ls' := [.ref 52, .ref 0, .ref 33, .int x3]) (st' := [.int (x3 + 1), .ref 52, .ref 33, .int s0]) (mem' := mem) hS hC 5 rfl ?_
  refine ex_aldR hS hC rfl rfl hr52 k.1 ?_
  replace k := k.2
  show pm_Ex ro m_L_law 558 [.ref 52, .ref 0, .ref 33, .int x3] [.int (rf52 (x3 + 1).toNatClampNeg), .ref 33, .int s0] mem Q
  refine ex_many (pc' := 562) (ls' := [.ref 52, .ref 0, .ref 33, .int x3]) (st' := [.int (x3 + 2), .ref 52, .int (rf52 (x3 + 1).toNatClampNeg), .ref 33, .int s0]) (mem' := mem) hS hC 4 rfl ?_
  refine ex_aldR hS hC rfl rfl hr52 k.1 ?_
  replace k := k.2
  show pm_Ex ro m_L_law 563 [.ref 52, .ref 0, .ref 33, .int x3] [.int (rf52 (x3 + 2).toNatClampNeg), .int (rf52 (x3 + 1).toNatClampNeg), .ref 33, .int s0] mem Q
  refine ex_call (y' := m_X10_figures) (rest := [.int s0]) (ent := [.ref 33, .int (rf52 (x3 + 1).toNatClampNeg), .int (rf52 (x3 + 2).toNatClampNeg)]) hS hC rfl rfl rfl rfl rfl rfl ?_
  exact k

set_option maxRecDepth 20000 in
theorem bk_L_law_590 {ro : pm_RO} {Q : Option Value → pm_M → Prop} {mem : pm_M} {L : Nat} {rf52 : Nat → Int32} (hr52 : ro 52 = some (L, rf52)) {x3 s0 : Int32} (k : (pm_inb (x3 + 1) L = true) ∧ ((pm_inb (x3 + 2) L = true) ∧ ((pm_inb (x3 + 3) L = true) ∧ (pm_Ex ro m_X10_rent 0 [.ref 33, .int (rf52 (x3 + 1).toNatClampNeg), .int (rf52 (x3 + 2).toNatClampNeg), .int (rf52 (x3 + 3).toNatClampNeg)] [] mem (fun v m => pm_Ex ro m_L_law 609 [.ref 52, .ref 0, .ref 33, .int x3] (v.toList ++ [.int s0]) m Q))))) : pm_Ex ro m_L_law 590 [.ref 52, .ref 0, .ref 33, .int x3] [.int s0] mem Q := by
  have hS : pm_sig[m_L_law]? = some _ := rfl
  have hC : pm_cod[m_L_law]? = some _ := rfl
  refine ex_many (pc' := 595) (ls' := [.ref 52, .ref 0, .ref 33, .int x3]) (st' := [.int (x3 + 1), .ref 52, .ref 33, .int s0]) (mem' := mem) hS hC 5 rfl ?_
  refine ex_aldR hS hC rfl rfl hr52 k.1 ?_
  replace k := k.2
  show pm_Ex ro m_L_law 596 [.ref 52, .ref 0, .ref 33, .int x3] [.int (rf52 (x3 + 1).toNatClampNeg), .ref 33, .int s0] mem Q
  refine ex_many (pc' := 600) (ls' := [.ref 52, .ref 0, .ref 33, .int x3]) (st' := [.int (x3 + 2), .ref 52, .int (rf52 (x3 + 1).toNatClampNeg), .ref 33, .int s0]) (mem' := mem) hS hC 4 rfl ?_
  refine ex_aldR hS hC rfl rfl hr52 k.1 ?_
  replace k := k.2
  show pm_Ex ro m_L_law 601 [.ref 52, .ref 0, .ref 33, .int x3] [.int (rf52 (x3 + 2).toNatClampNeg), .int (rf52 (x3 + 1).toNatClampNeg), .ref 33, .int s0] mem Q
  refine ex_many (pc' := 605) (ls' := [.ref 52, .ref 0, .ref 33, .int x3]) (st' := [.int (x3 + 3), .ref 52, .int (rf52 (x3 + 2).toNatClampNeg), .int (rf52 (x3 + 1).toNatClampNeg), .ref 33, .int s0]) (mem' := mem) hS hC 4 rfl ?_
  refine ex_aldR hS hC rfl rfl hr52 k.1 ?_
  replace k := k.2
  show pm_Ex ro m_L_law 606 [.ref 52, .ref 0, .ref 33, .int x3] [.int (rf52 (x3 + 3).toNatClampNeg), .int (rf52 (x3 + 2).toNatClampNeg), .int (rf52 (x3 + 1).toNatClampNeg), .ref 33, .int s0] mem Q
  refine ex_call (y' := m_X10_rent) (rest := [.int s0]) (ent := [.ref 33, .int (rf52 (x3 + 1).toNatClampNeg), .int (rf52 (x3 + 2).toNatClampNeg), .int (rf52 (x3 + 3).toNatClampNeg)]) hS hC rfl rfl rfl rfl rfl rfl ?_
  exact k

set_option maxRecDepth 20000 in
theorem bk_L_law_628 {ro : pm_RO} {Q : Option Value → pm_M → Prop} {mem : pm_M} {L : Nat} {rf52 : Nat → Int32} (hr52 : ro 52 = some (L, rf52)) {x3 : Int32} {s0 : Int64} (k : (pm_inb (x3 + 1) L = true) ∧ ((pm_inb (x3 + 2) L = true) ∧ (pm_Ex ro m_X10_share 0 [.ref 33, .int (rf52 (x3 + 1).toNatClampNeg), .int (rf52 (x3 + 2).toNatClampNeg)] [] mem (fun v m => pm_Ex ro m_L_law 642 [.ref 52, .ref 0, .ref 33, .int x3] (v.toList ++ [.long s0]) m Q)))) : pm_Ex ro m_L_law 628 [.ref 52, .ref 0, .ref 33, .int x3] [.long s0] mem Q := by
  have hS : pm_sig[m_L_law]? = some _ := rfl
  have hC : pm_cod[m_L_law]? = some _ := rfl
  refine ex_many (pc' := 633) (ls' := [.ref 52, .ref 0, .ref 33, .int x3]) (st' := [.int (x3 + 1), .ref 52, .ref 33, .long s0]) (mem' := mem) hS hC 5 rfl ?_
  refine ex_aldR hS hC rfl rfl hr52 k.1 ?_
  replace k := k.2
  show pm_Ex ro m_L_law 634 [.ref 52, .ref 0, .ref 33, .int x3] [.int (rf52 (x3 + 1).toNatClampNeg), .ref 33, .long s0] mem Q
  refine ex_many (pc' := 638) (ls' := [.ref 52, .ref 0, .ref 33, .int x3]) (st' := [.int (x3 + 2), .ref 52, .int (rf52 (x3 + 1).toNatClampNeg), .ref 33, .long s0]) (mem' := mem) hS hC 4 rfl ?_
  refine ex_aldR hS hC rfl rfl hr52 k.1 ?_
  replace k := k.2
  show pm_Ex ro m_L_law 639 [.ref 52, .ref 0, .ref 33, .int x3] [.int (rf52 (x3 + 2).toNatClampNeg), .int (rf52 (x3 + 1).toNatClampNeg), .ref 33, .long s0] mem Q
  refine ex_call (y' := m_X10_share) (rest := [.long s0]) (ent := [.ref 33, .int (rf52 (x3 + 1).toNatClampNeg), .int (rf52 (x3 + 2).toNatClampNeg)]) hS hC rfl rfl rfl rfl rfl rfl ?_
  exact k

set_option maxRecDepth 20000 in
theorem bk_L_law_662 {ro : pm_RO} {Q : Option Value → pm_M → Prop} {mem : pm_M} {L : Nat} {rf52 : Nat → Int32} (hr52 : ro 52 = some (L, rf52)) {x3 s0 : Int32} (k : (pm_inb (x3 + 1) L = true) ∧ ((pm_inb (x3 + 2) L = true) ∧ (pm_Ex ro m_X10_smudged 0 [.ref 33, .int (rf52 (x3 + 1).toNatClampNeg), .int (rf52 (x3 + 2).toNatClampNeg), .null, .null, .null, .null] [] mem (fun v m => pm_Ex ro m_L_law 676 [.ref 52, .ref 0, .ref 33, .int x3] (v.toList ++ [.int s0]) m Q)))) : pm_Ex ro m_L_law 662 [.ref 52, .ref 0, .ref 33, .int x3] [.int s0] mem Q := by
  have hS : pm_sig[m_L_law]? = some _ := rfl
  have hC : pm_cod[m_L_law]? = some _ := rfl
  refine ex_many (pc' := 667) (ls' := [.ref 52, .ref 0, .ref 33, .int x3]) (st' := [.int (x3 + 1), .ref 52, .ref 33, .int s0]) (mem' := mem) hS hC 5 rfl ?_
  refine ex_aldR hS hC rfl rfl hr52 k.1 ?_
  replace k := k.2
  show pm_Ex ro m_L_law 668 [.ref 52, .ref 0, .ref 33, .int x3] [.int (rf52 (x3 + 1).toNatClampNeg), .ref 33, .int s0] mem Q
  refine ex_many (pc' := 672) (ls' := [.ref 52, .ref 0, .ref 33, .int x3]) (st' := [.int (x3 + 2), .ref 52, .int (rf52 (x3 + 1).toNatClampNeg), .ref 33, .int s0]) (mem' := mem) hS hC 4 rfl ?_
  refine ex_aldR hS hC rfl rfl hr52 k.1 ?_
  replace k := k.2
  show pm_Ex ro m_L_law 673 [.ref 52, .ref 0, .ref 33, .int x3] [.int (rf52 (x3 + 2).toNatClampNeg), .int (rf52 (x3 + 1).toNatClampNeg), .ref 33, .int s0] mem Q
  refine ex_call (y' := m_X10_smudged) (rest := [.int s0]) (ent := [.ref 33, .int (rf52 (x3 + 1).toNatClampNeg), .int (rf52 (x3 + 2).toNatClampNeg), .null, .null, .null, .null]) hS hC rfl rfl rfl rfl rfl rfl ?_
  exact k

set_option maxRecDepth 20000 in
theorem bk_L_law_705 {ro : pm_RO} {Q : Option Value → pm_M → Prop} {mem : pm_M} {L : Nat} {rf52 : Nat → Int32} (hr52 : ro 52 = some (L, rf52)) {x3 s0 : Int32} (k : (pm_inb (x3 + 1) L = true) ∧ ((pm_inb (x3 + 2) L = true) ∧ ((pm_inb (x3 + 3) L = true) ∧ ((pm_inb (x3 + 4) L = true) ∧ (pm_Ex ro m_X10_game 0 [.ref 33, .int (rf52 (x3 + 1).toNatClampNeg), .int (rf52 (x3 + 2).toNatClampNeg), .int (rf52 (x3 + 3).toNatClampNeg), .int (rf52 (x3 + 4).toNatClampNeg), .null] [] mem (fun v m => pm_Ex ro m_L_law 729 [.ref 52, .ref 0, .ref 33, .int x3] (v.toList ++ [.int s0]) m Q)))))) : pm_Ex ro m_L_law 705 [.ref 52, .ref 0, .ref 33, .int x3] [.int s0] mem Q := by
  have hS : pm_sig[m_L_law]? = some _ := rfl
  have hC : pm_cod[m_L_law]? = some _ := rfl
  refine ex_many (pc' := 710) (ls' := [.ref 52, .ref 0, .ref 33, .int x3]) (st' := [.int (x3 + 1), .ref 52, .ref 33, .int s0]) (mem' := mem) hS hC 5 rfl ?_
  refine ex_aldR hS hC rfl rfl hr52 k.1 ?_
  replace k := k.2
  show pm_Ex ro m_L_law 711 [.ref 52, .ref 0, .ref 33, .int x3] [.int (rf52 (x3 + 1).toNatClampNeg), .ref 33, .int s0] mem Q
  refine ex_many (pc' := 715) (ls' := [.ref 52, .ref 0, .ref 33, .int x3]) (st' := [.int (x3 + 2), .ref 52, .int (rf52 (x3 + 1).toNatClampNeg), .ref 33, .int s0]) (mem' := mem) hS hC 4 rfl ?_
  refine ex_aldR hS hC rfl rfl hr52 k.1 ?_
  replace k := k.2
  show pm_Ex ro m_L_law 716 [.ref 52, .ref 0, .ref 33, .int x3] [.int (rf52 (x3 + 2).toNatClampNeg), .int (rf52 (x3 + 1).toNatClampNeg), .ref 33, .int s0] mem Q
  refine ex_many (pc' := 720) (ls' := [.ref 52, .ref 0, .ref 33, .int x3]) (st' := [.int (x3 + 3), .ref 52, .int (rf52 (x3 + 2).toNatClampNeg), .int (rf52 (x3 + 1).toNatClampNeg), .ref 33, .int s0]) (mem' := mem) hS hC 4 rfl ?_
  refine ex_aldR hS hC rfl rfl hr52 k.1 ?_
  replace k := k.2
  show pm_Ex ro m_L_law 721 [.ref 52, .ref 0, .ref 33, .int x3] [.int (rf52 (x3 + 3).toNatClampNeg), .int (rf52 (x3 + 2).toNatClampNeg), .int (rf52 (x3 + 1).toNatClampNeg), .ref 33, .int s0] mem Q
  refine ex_many (pc' := 725) (ls' := [.ref 52, .ref 0, .ref 33, .int x3]) (st' := [.int (x3 + 4), .ref 52, .int (rf52 (x3 + 3).toNatClampNeg), .int (rf52 (x3 + 2).toNatClampNeg), .int (rf52 (x3 + 1).toNatClampNeg), .ref 33, .int s0]) (mem' := mem) hS hC 4 rfl ?_
  refine ex_aldR hS hC rfl rfl hr52 k.1 ?_
  replace k := k.2
  show pm_Ex ro m_L_law 726 [.ref 52, .ref 0, .ref 33, .int x3] [.int (rf52 (x3 + 4).toNatClampNeg), .int (rf52 (x3 + 3).toNatClampNeg), .int (rf52 (x3 + 2).toNatClampNeg), .int (rf52 (x3 + 1).toNatClampNeg), .ref 33, .int s0] mem Q
  refine ex_call (y' := m_X10_game) (rest := [.int s0]) (ent := [.ref 33, .int (rf52 (x3 + 1).toNatClampNeg), .int (rf52 (x3 + 2).toNatClampNeg), .int (rf52 (x3 + 3).toNatClampNeg), .int (rf52 (x3 + 4).toNatClampNeg), .null]) hS hC rfl rfl rfl rfl rfl rfl ?_
  exact k

set_option maxRecDepth 20000 in
theorem bk_L_law_753 {ro : pm_RO} {Q : Option Value → pm_M → Prop} {mem : pm_M} {L : Nat} {rf52 : Nat → Int32} (hr52 : ro 52 = some (L, rf52)) {x3 s0 : Int32} (k : (pm_inb (x3 + 1) L = true) ∧ ((pm_inb (x3 + 2) L = true) ∧ ((pm_inb (x3 + 3) L = true) ∧ (pm_Ex ro m_X10_sheet 0 [.ref 33, .int (rf52 (x3 + 1).toNatClampNeg), .int (rf52 (x3 + 2).toNatClampNeg), .int (rf52 (x3 + 3).toNatClampNeg), .null] [] mem (fun v m => pm_Ex ro m_L_law 772 [.ref 52, .ref 0, .ref 33, .int x3] (v.toList ++ [.int s0]) m Q))))) : pm_Ex ro m_L_law 753 [.ref 52, .ref 0, .ref 33, .int x3] [.int s0] mem Q := by
  have hS : pm_sig[m_L_law]? = some _ := rfl
  have hC : pm_cod[m_L_law]? = some _ := rfl
  refine ex_many (pc' := 758) (ls' := [.ref 52, .ref 0, .ref 33, .int x3]) (st' := [.int (x3 + 1), .ref 52, .ref 33, .int s0]) (mem' := mem) hS hC 5 rfl ?_
  refine ex_aldR hS hC rfl rfl hr52 k.1 ?_
  replace k := k.2
  show pm_Ex ro m_L_law 759 [.ref 52, .ref 0, .ref 33, .int x3] [.int (rf52 (x3 + 1).toNatClampNeg), .ref 33, .int s0] mem Q
  refine ex_many (pc' := 763) (ls' := [.ref 52, .ref 0, .ref 33, .int x3]) (st' := [.int (x3 + 2), .ref 52, .int (rf52 (x3 + 1).toNatClampNeg), .ref 33, .int s0]) (mem' := mem) hS hC 4 rfl ?_
  refine ex_aldR hS hC rfl rfl hr52 k.1 ?_
  replace k := k.2
  show pm_Ex ro m_L_law 764 [.ref 52, .ref 0, .ref 33, .int x3] [.int (rf52 (x3 + 2).toNatClampNeg), .int (rf52 (x3 + 1).toNatClampNeg), .ref 33, .int s0] mem Q
  refine ex_many (pc' := 768) (ls' := [.ref 52, .ref 0, .ref 33, .int x3]) (st' := [.int (x3 + 3), .ref 52, .int (rf52 (x3 + 2).toNatClampNeg), .int (rf52 (x3 + 1).toNatClampNeg), .ref 33, .int s0]) (mem' := mem) hS hC 4 rfl ?_
  refine ex_aldR hS hC rfl rfl hr52 k.1 ?_
  replace k := k.2
  show pm_Ex ro m_L_law 769 [.ref 52, .ref 0, .ref 33, .int x3] [.int (rf52 (x3 + 3).toNatClampNeg), .int (rf52 (x3 + 2).toNatClampNeg), .int (rf52 (x3 + 1).toNatClampNeg), .ref 33, .int s0] mem Q
  refine ex_call (y' := m_X10_sheet) (rest := [.int s0]) (ent := [.ref 33, .int (rf52 (x3 + 1).toNatClampNeg), .int (rf52 (x3 + 2).toNatClampNeg), .int (rf52 (x3 + 3).toNatClampNeg), .null]) hS hC rfl rfl rfl rfl rfl rfl ?_
  exact k

set_option maxRecDepth 20000 in
theorem bk_L_law_786 {ro : pm_RO} {Q : Option Value → pm_M → Prop} {mem : pm_M} {L : Nat} {rf52 : Nat → Int32} (hr52 : ro 52 = some (L, rf52)) {x3 s0 : Int32} (k : (pm_inb (x3 + 1) L = true) ∧ (pm_Ex ro m_X10_lose 0 [.ref 33, .int (rf52 (x3 + 1).toNatClampNeg)] [] mem (fun v m => pm_Ex ro m_L_law 795 [.ref 52, .ref 0, .ref 33, .int x3] (v.toList ++ [.int s0]) m Q))) : pm_Ex ro m_L_law 786 [.ref 52, .ref 0, .ref 33, .int x3] [.int s0] mem Q := by
  have hS : pm_sig[m_L_law]? = some _ := rfl
  have hC : pm_cod[m_L_law]? = some _ := rfl
  refine ex_many (pc' := 791) (ls' := [.ref 52, .ref 0, .ref 33, .int x3]) (st' := [.int (x3 + 1), .ref 52, .ref 33, .int s0]) (mem' := mem) hS hC 5 rfl ?_
  refine ex_aldR hS hC rfl rfl hr52 k.1 ?_
  replace k := k.2
  show pm_Ex ro m_L_law 792 [.ref 52, .ref 0, .ref 33, .int x3] [.int (rf52 (x3 + 1).toNatClampNeg), .ref 33, .int s0] mem Q
  refine ex_call (y' := m_X10_lose) (rest := [.int s0]) (ent := [.ref 33, .int (rf52 (x3 + 1).toNatClampNeg)]) hS hC rfl rfl rfl rfl rfl rfl ?_
  exact k

set_option maxRecDepth 20000 in
theorem bk_L_law_824 {ro : pm_RO} {Q : Option Value → pm_M → Prop} {mem : pm_M} {L : Nat} {rf52 : Nat → Int32} (hr52 : ro 52 = some (L, rf52)) {x3 s0 : Int32} (k : (pm_inb (x3 + 1) L = true) ∧ ((pm_inb (x3 + 2) L = true) ∧ ((pm_inb (x3 + 3) L = true) ∧ ((pm_inb (x3 + 4) L = true) ∧ (pm_Ex ro m_X10_lay 0 [.ref 33, .int (rf52 (x3 + 1).toNatClampNeg), .int (rf52 (x3 + 2).toNatClampNeg), .int (rf52 (x3 + 3).toNatClampNeg), .int (rf52 (x3 + 4).toNatClampNeg), .null] [] mem (fun v m => pm_Ex ro m_L_law 848 [.ref 52, .ref 0, .ref 33, .int x3] (v.toList ++ [.int s0]) m Q)))))) : pm_Ex ro m_L_law 824 [.ref 52, .ref 0, .ref 33, .int x3] [.int s0] mem Q := by
  have hS : pm_sig[m_L_law]? = some _ := rfl
  have hC : pm_cod[m_L_law]? = some _ := rfl
  refine ex_many (pc' := 829) (ls' := [.ref 52, .ref 0, .ref 33, .int x3]) (st' := [.int (x3 + 1), .ref 52, .ref 33, .int s0]) (mem' := mem) hS hC 5 rfl ?_
  refine ex_aldR hS hC rfl rfl hr52 k.1 ?_
  replace k := k.2
  show pm_Ex ro m_L_law 830 [.ref 52, .ref 0, .ref 33, .int x3] [.int (rf52 (x3 + 1).toNatClampNeg), .ref 33, .int s0] mem Q
  refine ex_many (pc' := 834) (ls' := [.ref 52, .ref 0, .ref 33, .int x3]) (st' := [.int (x3 + 2), .ref 52, .int (rf52 (x3 + 1).toNatClampNeg), .ref 33, .int s0]) (mem' := mem) hS hC 4 rfl ?_
  refine ex_aldR hS hC rfl rfl hr52 k.1 ?_
  replace k := k.2
  show pm_Ex ro m_L_law 835 [.ref 52, .ref 0, .ref 33, .int x3] [.int (rf52 (x3 + 2).toNatClampNeg), .int (rf52 (x3 + 1).toNatClampNeg), .ref 33, .int s0] mem Q
  refine ex_many (pc' := 839) (ls' := [.ref 52, .ref 0, .ref 33, .int x3]) (st' := [.int (x3 + 3), .ref 52, .int (rf52 (x3 + 2).toNatClampNeg), .int (rf52 (x3 + 1).toNatClampNeg), .ref 33, .int s0]) (mem' := mem) hS hC 4 rfl ?_
  refine ex_aldR hS hC rfl rfl hr52 k.1 ?_
  replace k := k.2
  show pm_Ex ro m_L_law 840 [.ref 52, .ref 0, .ref 33, .int x3] [.int (rf52 (x3 + 3).toNatClampNeg), .int (rf52 (x3 + 2).toNatClampNeg), .int (rf52 (x3 + 1).toNatClampNeg), .ref 33, .int s0] mem Q
  refine ex_many (pc' := 844) (ls' := [.ref 52, .ref 0, .ref 33, .int x3]) (st' := [.int (x3 + 4), .ref 52, .int (rf52 (x3 + 3).toNatClampNeg), .int (rf52 (x3 + 2).toNatClampNeg), .int (rf52 (x3 + 1).toNatClampNeg), .ref 33, .int s0]) (mem' := mem) hS hC 4 rfl ?_
  refine ex_aldR hS hC rfl rfl hr52 k.1 ?_
  replace k := k.2
  show pm_Ex ro m_L_law 845 [.ref 52, .ref 0, .ref 33, .int x3] [.int (rf52 (x3 + 4).toNatClampNeg), .int (rf52 (x3 + 3).toNatClampNeg), .int (rf52 (x3 + 2).toNatClampNeg), .int (rf52 (x3 + 1).toNatClampNeg), .ref 33, .int s0] mem Q
  refine ex_call (y' := m_X10_lay) (rest := [.int s0]) (ent := [.ref 33, .int (rf52 (x3 + 1).toNatClampNeg), .int (rf52 (x3 + 2).toNatClampNeg), .int (rf52 (x3 + 3).toNatClampNeg), .int (rf52 (x3 + 4).toNatClampNeg), .null]) hS hC rfl rfl rfl rfl rfl rfl ?_
  exact k

set_option maxRecDepth 20000 in
theorem bk_L_law_872 {ro : pm_RO} {Q : Option Value → pm_M → Prop} {mem : pm_M} {L : Nat} {rf52 : Nat → Int32} (hr52 : ro 52 = some (L, rf52)) {x3 s0 : Int32} (k : (pm_inb (x3 + 1) L = true) ∧ ((pm_inb (x3 + 2) L = true) ∧ ((pm_inb (x3 + 3) L = true) ∧ (pm_Ex ro m_X10_get 0 [.ref 33, .int (rf52 (x3 + 1).toNatClampNeg), .int (rf52 (x3 + 2).toNatClampNeg), .int (rf52 (x3 + 3).toNatClampNeg)] [] mem (fun v m => pm_Ex ro m_L_law 891 [.ref 52, .ref 0, .ref 33, .int x3] (v.toList ++ [.int s0]) m Q))))) : pm_Ex ro m_L_law 872 [.ref 52, .ref 0, .ref 33, .int x3] [.int s0] mem Q := by
  have hS : pm_sig[m_L_law]? = some _ := rfl
  have hC : pm_cod[m_L_law]? = some _ := rfl
  refine ex_many (pc' := 877) (ls' := [.ref 52, .ref 0, .ref 33, .int x3]) (st' := [.int (x3 + 1), .ref 52, .ref 33, .int s0]) (mem' := mem) hS hC 5 rfl ?_
  refine ex_aldR hS hC rfl rfl hr52 k.1 ?_
  replace k := k.2
  show pm_Ex ro m_L_law 878 [.ref 52, .ref 0, .ref 33, .int x3] [.int (rf52 (x3 + 1).toNatClampNeg), .ref 33, .int s0] mem Q
  refine ex_many (pc' := 882) (ls' := [.ref 52, .ref 0, .ref 33, .int x3]) (st' := [.int (x3 + 2), .ref 52, .int (rf52 (x3 + 1).toNatClampNeg), .ref 33, .int s0]) (mem' := mem) hS hC 4 rfl ?_
  refine ex_aldR hS hC rfl rfl hr52 k.1 ?_
  replace k := k.2
  show pm_Ex ro m_L_law 883 [.ref 52, .ref 0, .ref 33, .int x3] [.int (rf52 (x3 + 2).toNatClampNeg), .int (rf52 (x3 + 1).toNatClampNeg), .ref 33, .int s0] mem Q
  refine ex_many (pc' := 887) (ls' := [.ref 52, .ref 0, .ref 33, .int x3]) (st' := [.int (x3 + 3), .ref 52, .int (rf52 (x3 + 2).toNatClampNeg), .int (rf52 (x3 + 1).toNatClampNeg), .ref 33, .int s0]) (mem' := mem) hS hC 4 rfl ?_
  refine ex_aldR hS hC rfl rfl hr52 k.1 ?_
  replace k := k.2
  show pm_Ex ro m_L_law 888 [.ref 52, .ref 0, .ref 33, .int x3] [.int (rf52 (x3 + 3).toNatClampNeg), .int (rf52 (x3 + 2).toNatClampNeg), .int (rf52 (x3 + 1).toNatClampNeg), .ref 33, .int s0] mem Q
  refine ex_call (y' := m_X10_get) (rest := [.int s0]) (ent := [.ref 33, .int (rf52 (x3 + 1).toNatClampNeg), .int (rf52 (x3 + 2).toNatClampNeg), .int (rf52 (x3 + 3).toNatClampNeg)]) hS hC rfl rfl rfl rfl rfl rfl ?_
  exact k

set_option maxRecDepth 20000 in
theorem bk_L_law_925 {ro : pm_RO} {Q : Option Value → pm_M → Prop} {mem : pm_M} {L : Nat} {rf52 : Nat → Int32} (hr52 : ro 52 = some (L, rf52)) {x3 s0 : Int32} (k : (pm_inb (x3 + 1) L = true) ∧ ((pm_inb (x3 + 2) L = true) ∧ ((pm_inb (x3 + 3) L = true) ∧ ((pm_inb (x3 + 4) L = true) ∧ ((pm_inb (x3 + 5) L = true) ∧ (pm_Ex ro m_X10_copy 0 [.ref 33, .int (rf52 (x3 + 1).toNatClampNeg), .int (rf52 (x3 + 2).toNatClampNeg), .int (rf52 (x3 + 3).toNatClampNeg), .int (rf52 (x3 + 4).toNatClampNeg), .int (rf52 (x3 + 5).toNatClampNeg), .null] [] mem (fun v m => pm_Ex ro m_L_law 954 [.ref 52, .ref 0, .ref 33, .int x3] (v.toList ++ [.int s0]) m Q))))))) : pm_Ex ro m_L_law 925 [.ref 52, .ref 0, .ref 33, .int x3] [.int s0] mem Q := by
  have hS : pm_sig[m_L_law]? = some _ := rfl
  have hC : pm_cod[m_L_law]? = some _ := rfl
  refine ex_many (pc' := 930) (ls' := [.ref 52, .ref 0, .ref 33, .int x3]) (st' := [.int (x3 + 1), .ref 52, .ref 33, .int s0]) (mem' := mem) hS hC 5 rfl ?_
  refine ex_aldR hS hC rfl rfl hr52 k.1 ?_
  replace k := k.2
  show pm_Ex ro m_L_law 931 [.ref 52, .ref 0, .ref 33, .int x3] [.int (rf52 (x3 + 1).toNatClampNeg), .ref 33, .int s0] mem Q
  refine ex_many (pc' := 935) (ls' := [.ref 52, .ref 0, .ref 33, .int x3]) (st' := [.int (x3 + 2), .ref 52, .int (rf52 (x3 + 1).toNatClampNeg), .ref 33, .int s0]) (mem' := mem) hS hC 4 rfl ?_
  refine ex_aldR hS hC rfl rfl hr52 k.1 ?_
  replace k := k.2
  show pm_Ex ro m_L_law 936 [.ref 52, .ref 0, .ref 33, .int x3] [.int (rf52 (x3 + 2).toNatClampNeg), .int (rf52 (x3 + 1).toNatClampNeg), .ref 33, .int s0] mem Q
  refine ex_many (pc' := 940) (ls' := [.ref 52, .ref 0, .ref 33, .int x3]) (st' := [.int (x3 + 3), .ref 52, .int (rf52 (x3 + 2).toNatClampNeg), .int (rf52 (x3 + 1).toNatClampNeg), .ref 33, .int s0]) (mem' := mem) hS hC 4 rfl ?_
  refine ex_aldR hS hC rfl rfl hr52 k.1 ?_
  replace k := k.2
  show pm_Ex ro m_L_law 941 [.ref 52, .ref 0, .ref 33, .int x3] [.int (rf52 (x3 + 3).toNatClampNeg), .int (rf52 (x3 + 2).toNatClampNeg), .int (rf52 (x3 + 1).toNatClampNeg), .ref 33, .int s0] mem Q
  refine ex_many (pc' := 945) (ls' := [.ref 52, .ref 0, .ref 33, .int x3]) (st' := [.int (x3 + 4), .ref 52, .int (rf52 (x3 + 3).toNatClampNeg), .int (rf52 (x3 + 2).toNatClampNeg), .int (rf52 (x3 + 1).toNatClampNeg), .ref 33, .int s0]) (mem' := mem) hS hC 4 rfl ?_
  refine ex_aldR hS hC rfl rfl hr52 k.1 ?_
  replace k := k.2
  show pm_Ex ro m_L_law 946 [.ref 52, .ref 0, .ref 33, .int x3] [.int (rf52 (x3 + 4).toNatClampNeg), .int (rf52 (x3 + 3).toNatClampNeg), .int (rf52 (x3 + 2).toNatClampNeg), .int (rf52 (x3 + 1).toNatClampNeg), .ref 33, .int s0] mem Q
  refine ex_many (pc' := 950) (ls' := [.ref 52, .ref 0, .ref 33, .int x3]) (st' := [.int (x3 + 5), .ref 52, .int (rf52 (x3 + 4).toNatClampNeg), .int (rf52 (x3 + 3).toNatClampNeg), .int (rf52 (x3 + 2).toNatClampNeg), .int (rf52 (x3 + 1).toNatClampNeg), .ref 33, .int s0]) (mem' := mem) hS hC 4 rfl ?_
  refine ex_aldR hS hC rfl rfl hr52 k.1 ?_
  replace k := k.2
  show pm_Ex ro m_L_law 951 [.ref 52, .ref 0, .ref 33, .int x3] [.int (rf52 (x3 + 5).toNatClampNeg), .int (rf52 (x3 + 4).toNatClampNeg), .int (rf52 (x3 + 3).toNatClampNeg), .int (rf52 (x3 + 2).toNatClampNeg), .int (rf52 (x3 + 1).toNatClampNeg), .ref 33, .int s0] mem Q
  refine ex_call (y' := m_X10_copy) (rest := [.int s0]) (ent := [.ref 33, .int (rf52 (x3 + 1).toNatClampNeg), .int (rf52 (x3 + 2).toNatClampNeg), .int (rf52 (x3 + 3).toNatClampNeg), .int (rf52 (x3 + 4).toNatClampNeg), .int (rf52 (x3 + 5).toNatClampNeg), .null]) hS hC rfl rfl rfl rfl rfl rfl ?_
  exact k

set_option maxRecDepth 20000 in
theorem bk_L_law_973 {ro : pm_RO} {Q : Option Value → pm_M → Prop} {mem : pm_M} {L : Nat} {rf52 : Nat → Int32} (hr52 : ro 52 = some (L, rf52)) {x3 s0 : Int32} (k : (pm_inb (x3 + 1) L = true) ∧ ((pm_inb (x3 + 2) L = true) ∧ (pm_Ex ro m_X10_write 0 [.ref 33, .int (rf52 (x3 + 1).toNatClampNeg), .int (rf52 (x3 + 2).toNatClampNeg), .null, .null, .null, .null] [] mem (fun v m => pm_Ex ro m_L_law 987 [.ref 52, .ref 0, .ref 33, .int x3] (v.toList ++ [.int s0]) m Q)))) : pm_Ex ro m_L_law 973 [.ref 52, .ref 0, .ref 33, .int x3] [.int s0] mem Q := by
  have hS : pm_sig[m_L_law]? = some _ := rfl
  have hC : pm_cod[m_L_law]? = some _ := rfl
  refine ex_many (pc' := 978) (ls' := [.ref 52, .ref 0, .ref 33, .int x3]) (st' := [.int (x3 + 1), .ref 52, .ref 33, .int s0]) (mem' := mem) hS hC 5 rfl ?_
  refine ex_aldR hS hC rfl rfl hr52 k.1 ?_
  replace k := k.2
  show pm_Ex ro m_L_law 979 [.ref 52, .ref 0, .ref 33, .int x3] [.int (rf52 (x3 + 1).toNatClampNeg), .ref 33, .int s0] mem Q
  refine ex_many (pc' := 983) (ls' := [.ref 52, .ref 0, .ref 33, .int x3]) (st' := [.int (x3 + 2), .ref 52, .int (rf52 (x3 + 1).toNatClampNeg), .ref 33, .int s0]) (mem' := mem) hS hC 4 rfl ?_
  refine ex_aldR hS hC rfl rfl hr52 k.1 ?_
  replace k := k.2
  show pm_Ex ro m_L_law 984 [.ref 52, .ref 0, .ref 33, .int x3] [.int (rf52 (x3 + 2).toNatClampNeg), .int (rf52 (x3 + 1).toNatClampNeg), .ref 33, .int s0] mem Q
  refine ex_call (y' := m_X10_write) (rest := [.int s0]) (ent := [.ref 33, .int (rf52 (x3 + 1).toNatClampNeg), .int (rf52 (x3 + 2).toNatClampNeg), .null, .null, .null, .null]) hS hC rfl rfl rfl rfl rfl rfl ?_
  exact k

set_option maxRecDepth 20000 in
theorem bk_L_law_1001 {ro : pm_RO} {Q : Option Value → pm_M → Prop} {mem : pm_M} {L : Nat} {rf52 : Nat → Int32} (hr52 : ro 52 = some (L, rf52)) {x3 s0 : Int32} (k : (pm_inb (x3 + 1) L = true) ∧ (pm_Ex ro m_X10_count 0 [.ref 33, .int (rf52 (x3 + 1).toNatClampNeg)] [] mem (fun v m => pm_Ex ro m_L_law 1010 [.ref 52, .ref 0, .ref 33, .int x3] (v.toList ++ [.int s0]) m Q))) : pm_Ex ro m_L_law 1001 [.ref 52, .ref 0, .ref 33, .int x3] [.int s0] mem Q := by
  have hS : pm_sig[m_L_law]? = some _ := rfl
  have hC : pm_cod[m_L_law]? = some _ := rfl
  refine ex_many (pc' := 1006) (ls' := [.ref 52, .ref 0, .ref 33, .int x3]) (st' := [.int (x3 + 1), .ref 52, .ref 33, .int s0]) (mem' := mem) hS hC 5 rfl ?_
  refine ex_aldR hS hC rfl rfl hr52 k.1 ?_
  replace k := k.2
  show pm_Ex ro m_L_law 1007 [.ref 52, .ref 0, .ref 33, .int x3] [.int (rf52 (x3 + 1).toNatClampNeg), .ref 33, .int s0] mem Q
  refine ex_call (y' := m_X10_count) (rest := [.int s0]) (ent := [.ref 33, .int (rf52 (x3 + 1).toNatClampNeg)]) hS hC rfl rfl rfl rfl rfl rfl ?_
  exact k

set_option maxRecDepth 20000 in
theorem bk_L_law_1019 {ro : pm_RO} {Q : Option Value → pm_M → Prop} {mem : pm_M} {x3 : Int32} {s0 : Int64} (k : pm_Ex ro m_X10_digest 0 [.ref 33, .null, .null, .null, .null] [] mem (fun v m => pm_Ex ro m_L_law 1023 [.ref 52, .ref 0, .ref 33, .int x3] (v.toList ++ [.long s0]) m Q)) : pm_Ex ro m_L_law 1019 [.ref 52, .ref 0, .ref 33, .int x3] [.long s0] mem Q := by
  have hS : pm_sig[m_L_law]? = some _ := rfl
  have hC : pm_cod[m_L_law]? = some _ := rfl
  refine ex_many (pc' := 1020) (ls' := [.ref 52, .ref 0, .ref 33, .int x3]) (st' := [.ref 33, .long s0]) (mem' := mem) hS hC 1 rfl ?_
  refine ex_call (y' := m_X10_digest) (rest := [.long s0]) (ent := [.ref 33, .null, .null, .null, .null]) hS hC rfl rfl rfl rfl rfl rfl ?_
  exact k

set_option maxRecDepth 20000 in
theorem bk_L_law_174 {ro : pm_RO} {Q : Option Value → pm_M → Prop} {mem : pm_M} {x3 s0 s1 : Int32} (k : (s1 = s0 → pm_Ex ro m_L_law 18 [.ref 52, .ref 0, .ref 33, .int (x3 + 6)] [] mem Q) ∧ (¬ (s1 = s0) → Q (some (.int 0)) mem)) : pm_Ex ro m_L_law 174 [.ref 52, .ref 0, .ref 33, .int x3] [.int s0, .int s1] mem Q := by
  have hS : pm_sig[m_L_law]? = some _ := rfl
  have hC : pm_cod[m_L_law]? = some _ := rfl
  refine ex_br (P := s1 = s0) (a := 1029) (b := 177) (ls' := [.ref 52, .ref 0, .ref 33, .int x3]) (st' := []) (mem' := mem) hS hC rfl (fun h => ?_) (fun h => ?_)
  · replace k := k.1 (h)
    refine ex_many (pc' := 18) (ls' := [.ref 52, .ref 0, .ref 33, .int (x3 + 6)]) (st' := []) (mem' := mem) hS hC 2 rfl ?_
    exact k
  · replace k := k.2 (h)
    refine ex_many (pc' := 178) (ls' := [.ref 52, .ref 0, .ref 33, .int x3]) (st' := [.int 0]) (mem' := mem) hS hC 1 rfl ?_
    exact ex_ret (v := (some (.int 0))) hS hC rfl rfl rfl k

set_option maxRecDepth 20000 in
theorem bk_L_law_187 {ro : pm_RO} {Q : Option Value → pm_M → Prop} {mem : pm_M} {x3 s0 s1 : Int32} (k : (s1 = s0 → pm_Ex ro m_L_law 18 [.ref 52, .ref 0, .ref 33, .int (x3 + 6)] [] mem Q) ∧ (¬ (s1 = s0) → Q (some (.int 0)) mem)) : pm_Ex ro m_L_law 187 [.ref 52, .ref 0, .ref 33, .int x3] [.int s0, .int s1] mem Q := by
  have hS : pm_sig[m_L_law]? = some _ := rfl
  have hC : pm_cod[m_L_law]? = some _ := rfl
  refine ex_br (P := s1 = s0) (a := 1029) (b := 190) (ls' := [.ref 52, .ref 0, .ref 33, .int x3]) (st' := []) (mem' := mem) hS hC rfl (fun h => ?_) (fun h => ?_)
  · replace k := k.1 (h)
    refine ex_many (pc' := 18) (ls' := [.ref 52, .ref 0, .ref 33, .int (x3 + 6)]) (st' := []) (mem' := mem) hS hC 2 rfl ?_
    exact k
  · replace k := k.2 (h)
    refine ex_many (pc' := 191) (ls' := [.ref 52, .ref 0, .ref 33, .int x3]) (st' := [.int 0]) (mem' := mem) hS hC 1 rfl ?_
    exact ex_ret (v := (some (.int 0))) hS hC rfl rfl rfl k

set_option maxRecDepth 20000 in
theorem bk_L_law_200 {ro : pm_RO} {Q : Option Value → pm_M → Prop} {mem : pm_M} {x3 s0 s1 : Int32} (k : (s1 = s0 → pm_Ex ro m_L_law 18 [.ref 52, .ref 0, .ref 33, .int (x3 + 6)] [] mem Q) ∧ (¬ (s1 = s0) → Q (some (.int 0)) mem)) : pm_Ex ro m_L_law 200 [.ref 52, .ref 0, .ref 33, .int x3] [.int s0, .int s1] mem Q := by
  have hS : pm_sig[m_L_law]? = some _ := rfl
  have hC : pm_cod[m_L_law]? = some _ := rfl
  refine ex_br (P := s1 = s0) (a := 1029) (b := 203) (ls' := [.ref 52, .ref 0, .ref 33, .int x3]) (st' := []) (mem' := mem) hS hC rfl (fun h => ?_) (fun h => ?_)
  · replace k := k.1 (h)
    refine ex_many (pc' := 18) (ls' := [.ref 52, .ref 0, .ref 33, .int (x3 + 6)]) (st' := []) (mem' := mem) hS hC 2 rfl ?_
    exact k
  · replace k := k.2 (h)
    refine ex_many (pc' := 204) (ls' := [.ref 52, .ref 0, .ref 33, .int x3]) (st' := [.int 0]) (mem' := mem) hS hC 1 rfl ?_
    exact ex_ret (v := (some (.int 0))) hS hC rfl rfl rfl k

set_option maxRecDepth 20000 in
theorem bk_L_law_233 {ro : pm_RO} {Q : Option Value → pm_M → Prop} {mem : pm_M} {x3 s0 s1 : Int32} (k : (s1 = s0 → pm_Ex ro m_L_law 18 [.ref 52, .ref 0, .ref 33, .int (x3 + 6)] [] mem Q) ∧ (¬ (s1 = s0) → Q (some (.int 0)) mem)) : pm_Ex ro m_L_law 233 [.ref 52, .ref 0, .ref 33, .int x3] [.int s0, .int s1] mem Q := by
  have hS : pm_sig[m_L_law]? = some _ := rfl
  have hC : pm_cod[m_L_law]? = some _ := rfl
  refine ex_br (P := s1 = s0) (a := 1029) (b := 236) (ls' := [.ref 52, .ref 0, .ref 33, .int x3]) (st' := []) (mem' := mem) hS hC rfl (fun h => ?_) (fun h => ?_)
  · replace k := k.1 (h)
    refine ex_many (pc' := 18) (ls' := [.ref 52, .ref 0, .ref 33, .int (x3 + 6)]) (st' := []) (mem' := mem) hS hC 2 rfl ?_
    exact k
  · replace k := k.2 (h)
    refine ex_many (pc' := 237) (ls' := [.ref 52, .ref 0, .ref 33, .int x3]) (st' := [.int 0]) (mem' := mem) hS hC 1 rfl ?_
    exact ex_ret (v := (some (.int 0))) hS hC rfl rfl rfl k

set_option maxRecDepth 20000 in
theorem bk_L_law_266 {ro : pm_RO} {Q : Option Value → pm_M → Prop} {mem : pm_M} {x3 s0 s1 : Int32} (k : (s1 = s0 → pm_Ex ro m_L_law 18 [.ref 52, .ref 0, .ref 33, .int (x3 + 6)] [] mem Q) ∧ (¬ (s1 = s0) → Q (some (.int 0)) mem)) : pm_Ex ro m_L_law 266 [.ref 52, .ref 0, .ref 33, .int x3] [.int s0, .int s1] mem Q := by
  have hS : pm_sig[m_L_law]? = some _ := rfl
  have hC : pm_cod[m_L_law]? = some _ := rfl
  refine ex_br (P := s1 = s0) (a := 1029) (b := 269) (ls' := [.ref 52, .ref 0, .ref 33, .int x3]) (st' := []) (mem' := mem) hS hC rfl (fun h => ?_) (fun h => ?_)
  · replace k := k.1 (h)
    refine ex_many (pc' := 18) (ls' := [.ref 52, .ref 0, .ref 33, .int (x3 + 6)]) (st' := []) (mem' := mem) hS hC 2 rfl ?_
    exact k
  · replace k := k.2 (h)
    refine ex_many (pc' := 270) (ls' := [.ref 52, .ref 0, .ref 33, .int x3]) (st' := [.int 0]) (mem' := mem) hS hC 1 rfl ?_
    exact ex_ret (v := (some (.int 0))) hS hC rfl rfl rfl k

set_option maxRecDepth 20000 in
theorem bk_L_law_299 {ro : pm_RO} {Q : Option Value → pm_M → Prop} {mem : pm_M} {x3 s0 s1 : Int32} (k : (s1 = s0 → pm_Ex ro m_L_law 18 [.ref 52, .ref 0, .ref 33, .int (x3 + 6)] [] mem Q) ∧ (¬ (s1 = s0) → Q (some (.int 0)) mem)) : pm_Ex ro m_L_law 299 [.ref 52, .ref 0, .ref 33, .int x3] [.int s0, .int s1] mem Q := by
  have hS : pm_sig[m_L_law]? = some _ := rfl
  have hC : pm_cod[m_L_law]? = some _ := rfl
  refine ex_br (P := s1 = s0) (a := 1029) (b := 302) (ls' := [.ref 52, .ref 0, .ref 33, .int x3]) (st' := []) (mem' := mem) hS hC rfl (fun h => ?_) (fun h => ?_)
  · replace k := k.1 (h)
    refine ex_many (pc' := 18) (ls' := [.ref 52, .ref 0, .ref 33, .int (x3 + 6)]) (st' := []) (mem' := mem) hS hC 2 rfl ?_
    exact k
  · replace k := k.2 (h)
    refine ex_many (pc' := 303) (ls' := [.ref 52, .ref 0, .ref 33, .int x3]) (st' := [.int 0]) (mem' := mem) hS hC 1 rfl ?_
    exact ex_ret (v := (some (.int 0))) hS hC rfl rfl rfl k

set_option maxRecDepth 20000 in
theorem bk_L_law_322 {ro : pm_RO} {Q : Option Value → pm_M → Prop} {mem : pm_M} {x3 s0 s1 : Int32} (k : (s1 = s0 → pm_Ex ro m_L_law 18 [.ref 52, .ref 0, .ref 33, .int (x3 + 6)] [] mem Q) ∧ (¬ (s1 = s0) → Q (some (.int 0)) mem)) : pm_Ex ro m_L_law 322 [.ref 52, .ref 0, .ref 33, .int x3] [.int s0, .int s1] mem Q := by
  have hS : pm_sig[m_L_law]? = some _ := rfl
  have hC : pm_cod[m_L_law]? = some _ := rfl
  refine ex_br (P := s1 = s0) (a := 1029) (b := 325) (ls' := [.ref 52, .ref 0, .ref 33, .int x3]) (st' := []) (mem' := mem) hS hC rfl (fun h => ?_) (fun h => ?_)
  · replace k := k.1 (h)
    refine ex_many (pc' := 18) (ls' := [.ref 52, .ref 0, .ref 33, .int (x3 + 6)]) (st' := []) (mem' := mem) hS hC 2 rfl ?_
    exact k
  · replace k := k.2 (h)
    refine ex_many (pc' := 326) (ls' := [.ref 52, .ref 0, .ref 33, .int x3]) (st' := [.int 0]) (mem' := mem) hS hC 1 rfl ?_
    exact ex_ret (v := (some (.int 0))) hS hC rfl rfl rfl k

set_option maxRecDepth 20000 in
theorem bk_L_law_345 {ro : pm_RO} {Q : Option Value → pm_M → Prop} {mem : pm_M} {x3 s0 s1 : Int32} (k : (s1 = s0 → pm_Ex ro m_L_law 18 [.ref 52, .ref 0, .ref 33, .int (x3 + 6)] [] mem Q) ∧ (¬ (s1 = s0) → Q (some (.int 0)) mem)) : pm_Ex ro m_L_law 345 [.ref 52, .ref 0, .ref 33, .int x3] [.int s0, .int s1] mem Q := by
  have hS : pm_sig[m_L_law]? = some _ := rfl
  have hC : pm_cod[m_L_law]? = some _ := rfl
  refine ex_br (P := s1 = s0) (a := 1029) (b := 348) (ls' := [.ref 52, .ref 0, .ref 33, .int x3]) (st' := []) (mem' := mem) hS hC rfl (fun h => ?_) (fun h => ?_)
  · replace k := k.1 (h)
    refine ex_many (pc' := 18) (ls' := [.ref 52, .ref 0, .ref 33, .int (x3 + 6)]) (st' := []) (mem' := mem) hS hC 2 rfl ?_
    exact k
  · replace k := k.2 (h)
    refine ex_many (pc' := 349) (ls' := [.ref 52, .ref 0, .ref 33, .int x3]) (st' := [.int 0]) (mem' := mem) hS hC 1 rfl ?_
    exact ex_ret (v := (some (.int 0))) hS hC rfl rfl rfl k

set_option maxRecDepth 20000 in
theorem bk_L_law_378 {ro : pm_RO} {Q : Option Value → pm_M → Prop} {mem : pm_M} {x3 s0 s1 : Int32} (k : (s1 = s0 → pm_Ex ro m_L_law 18 [.ref 52, .ref 0, .ref 33, .int (x3 + 6)] [] mem Q) ∧ (¬ (s1 = s0) → Q (some (.int 0)) mem)) : pm_Ex ro m_L_law 378 [.ref 52, .ref 0, .ref 33, .int x3] [.int s0, .int s1] mem Q := by
  have hS : pm_sig[m_L_law]? = some _ := rfl
  have hC : pm_cod[m_L_law]? = some _ := rfl
  refine ex_br (P := s1 = s0) (a := 1029) (b := 381) (ls' := [.ref 52, .ref 0, .ref 33, .int x3]) (st' := []) (mem' := mem) hS hC rfl (fun h => ?_) (fun h => ?_)
  · replace k := k.1 (h)
    refine ex_many (pc' := 18) (ls' := [.ref 52, .ref 0, .ref 33, .int (x3 + 6)]) (st' := []) (mem' := mem) hS hC 2 rfl ?_
    exact k
  · replace k := k.2 (h)
    refine ex_many (pc' := 382) (ls' := [.ref 52, .ref 0, .ref 33, .int x3]) (st' := [.int 0]) (mem' := mem) hS hC 1 rfl ?_
    exact ex_ret (v := (some (.int 0))) hS hC rfl rfl rfl k

set_option maxRecDepth 20000 in
theorem bk_L_law_401 {ro : pm_RO} {Q : Option Value → pm_M → Prop} {mem : pm_M} {x3 s0 s1 : Int32} (k : (s1 = s0 → pm_Ex ro m_L_law 18 [.ref 52, .ref 0, .ref 33, .int (x3 + 6)] [] mem Q) ∧ (¬ (s1 = s0) → Q (some (.int 0)) mem)) : pm_Ex ro m_L_law 401 [.ref 52, .ref 0, .ref 33, .int x3] [.int s0, .int s1] mem Q := by
  have hS : pm_sig[m_L_law]? = some _ := rfl
  have hC : pm_cod[m_L_law]? = some _ := rfl
  refine ex_br (P := s1 = s0) (a := 1029) (b := 404) (ls' := [.ref 52, .ref 0, .ref 33, .int x3]) (st' := []) (mem' := mem) hS hC rfl (fun h => ?_) (fun h => ?_)
  · replace k := k.1 (h)
    refine ex_many (pc' := 18) (ls' := [.ref 52, .ref 0, .ref 33, .int (x3 + 6)]) (st' := []) (mem' := mem) hS hC 2 rfl ?_
    exact k
  · replace k := k.2 (h)
    refine ex_many (pc' := 405) (ls' := [.ref 52, .ref 0, .ref 33, .int x3]) (st' := [.int 0]) (mem' := mem) hS hC 1 rfl ?_
    exact ex_ret (v := (some (.int 0))) hS hC rfl rfl rfl k

set_option maxRecDepth 20000 in
theorem bk_L_law_424 {ro : pm_RO} {Q : Option Value → pm_M → Prop} {mem : pm_M} {x3 s0 s1 : Int32} (k : (s1 = s0 → pm_Ex ro m_L_law 18 [.ref 52, .ref 0, .ref 33, .int (x3 + 6)] [] mem Q) ∧ (¬ (s1 = s0) → Q (some (.int 0)) mem)) : pm_Ex ro m_L_law 424 [.ref 52, .ref 0, .ref 33, .int x3] [.int s0, .int s1] mem Q := by
  have hS : pm_sig[m_L_law]? = some _ := rfl
  have hC : pm_cod[m_L_law]? = some _ := rfl
  refine ex_br (P := s1 = s0) (a := 1029) (b := 427) (ls' := [.ref 52, .ref 0, .ref 33, .int x3]) (st' := []) (mem' := mem) hS hC rfl (fun h => ?_) (fun h => ?_)
  · replace k := k.1 (h)
    refine ex_many (pc' := 18) (ls' := [.ref 52, .ref 0, .ref 33, .int (x3 + 6)]) (st' := []) (mem' := mem) hS hC 2 rfl ?_
    exact k
  · replace k := k.2 (h)
    refine ex_many (pc' := 428) (ls' := [.ref 52, .ref 0, .ref 33, .int x3]) (st' := [.int 0]) (mem' := mem) hS hC 1 rfl ?_
    exact ex_ret (v := (some (.int 0))) hS hC rfl rfl rfl k

set_option maxRecDepth 20000 in
theorem bk_L_law_457 {ro : pm_RO} {Q : Option Value → pm_M → Prop} {mem : pm_M} {x3 s0 s1 : Int32} (k : (s1 = s0 → pm_Ex ro m_L_law 18 [.ref 52, .ref 0, .ref 33, .int (x3 + 6)] [] mem Q) ∧ (¬ (s1 = s0) → Q (some (.int 0)) mem)) : pm_Ex ro m_L_law 457 [.ref 52, .ref 0, .ref 33, .int x3] [.int s0, .int s1] mem Q := by
  have hS : pm_sig[m_L_law]? = some _ := rfl
  have hC : pm_cod[m_L_law]? = some _ := rfl
  refine ex_br (P := s1 = s0) (a := 1029) (b := 460) (ls' := [.ref 52, .ref 0, .ref 33, .int x3]) (st' := []) (mem' := mem) hS hC rfl (fun h => ?_) (fun h => ?_)
  · replace k := k.1 (h)
    refine ex_many (pc' := 18) (ls' := [.ref 52, .ref 0, .ref 33, .int (x3 + 6)]) (st' := []) (mem' := mem) hS hC 2 rfl ?_
    exact k
  · replace k := k.2 (h)
    refine ex_many (pc' := 461) (ls' := [.ref 52, .ref 0, .ref 33, .int x3]) (st' := [.int 0]) (mem' := mem) hS hC 1 rfl ?_
    exact ex_ret (v := (some (.int 0))) hS hC rfl rfl rfl k

set_option maxRecDepth 20000 in
theorem bk_L_law_490 {ro : pm_RO} {Q : Option Value → pm_M → Prop} {mem : pm_M} {x3 s0 s1 : Int32} (k : (s1 = s0 → pm_Ex ro m_L_law 18 [.ref 52, .ref 0, .ref 33, .int (x3 + 6)] [] mem Q) ∧ (¬ (s1 = s0) → Q (some (.int 0)) mem)) : pm_Ex ro m_L_law 490 [.ref 52, .ref 0, .ref 33, .int x3] [.int s0, .int s1] mem Q := by
  have hS : pm_sig[m_L_law]? = some _ := rfl
  have hC : pm_cod[m_L_law]? = some _ := rfl
  refine ex_br (P := s1 = s0) (a := 1029) (b := 493) (ls' := [.ref 52, .ref 0, .ref 33, .int x3]) (st' := []) (mem' := mem) hS hC rfl (fun h => ?_) (fun h => ?_)
  · replace k := k.1 (h)
    refine ex_many (pc' := 18) (ls' := [.ref 52, .ref 0, .ref 33, .int (x3 + 6)]) (st' := []) (mem' := mem) hS hC 2 rfl ?_
    exact k
  · replace k := k.2 (h)
    refine ex_many (pc' := 494) (ls' := [.ref 52, .ref 0, .ref 33, .int x3]) (st' := [.int 0]) (mem' := mem) hS hC 1 rfl ?_
    exact ex_ret (v := (some (.int 0))) hS hC rfl rfl rfl k

set_option maxRecDepth 20000 in
theorem bk_L_law_533 {ro : pm_RO} {Q : Option Value → pm_M → Prop} {mem : pm_M} {x3 s0 s1 : Int32} (k : (s1 = s0 → pm_Ex ro m_L_law 18 [.ref 52, .ref 0, .ref 33, .int (x3 + 6)] [] mem Q) ∧ (¬ (s1 = s0) → Q (some (.int 0)) mem)) : pm_Ex ro m_L_law 533 [.ref 52, .ref 0, .ref 33, .int x3] [.int s0, .int s1] mem Q := by
  have hS : pm_sig[m_L_law]? = some _ := rfl
  have hC : pm_cod[m_L_law]? = some _ := rfl
  refine ex_br (P := s1 = s0) (a := 1029) (b := 536) (ls' := [.ref 52, .ref 0, .ref 33, .int x3]) (st' := []) (mem' := mem) hS hC rfl (fun h => ?_) (fun h => ?_)
  · replace k := k.1 (h)
    refine ex_many (pc' := 18) (ls' := [.ref 52, .ref 0, .ref 33, .int (x3 + 6)]) (st' := []) (mem' := mem) hS hC 2 rfl ?_
    exact k
  · replace k := k.2 (h)
    refine ex_many (pc' := 537) (ls' := [.ref 52, .ref 0, .ref 33, .int x3]) (st' := [.int 0]) (mem' := mem) hS hC 1 rfl ?_
    exact ex_ret (v := (some (.int 0))) hS hC rfl rfl rfl k

set_option maxRecDepth 20000 in
theorem bk_L_law_566 {ro : pm_RO} {Q : Option Value → pm_M → Prop} {mem : pm_M} {x3 s0 s1 : Int32} (k : (s1 = s0 → pm_Ex ro m_L_law 18 [.ref 52, .ref 0, .ref 33, .int (x3 + 6)] [] mem Q) ∧ (¬ (s1 = s0) → Q (some (.int 0)) mem)) : pm_Ex ro m_L_law 566 [.ref 52, .ref 0, .ref 33, .int x3] [.int s0, .int s1] mem Q := by
  have hS : pm_sig[m_L_law]? = some _ := rfl
  have hC : pm_cod[m_L_law]? = some _ := rfl
  refine ex_br (P := s1 = s0) (a := 1029) (b := 569) (ls' := [.ref 52, .ref 0, .ref 33, .int x3]) (st' := []) (mem' := mem) hS hC rfl (fun h => ?_) (fun h => ?_)
  · replace k := k.1 (h)
    refine ex_many (pc' := 18) (ls' := [.ref 52, .ref 0, .ref 33, .int (x3 + 6)]) (st' := []) (mem' := mem) hS hC 2 rfl ?_
    exact k
  · replace k := k.2 (h)
    refine ex_many (pc' := 570) (ls' := [.ref 52, .ref 0, .ref 33, .int x3]) (st' := [.int 0]) (mem' := mem) hS hC 1 rfl ?_
    exact ex_ret (v := (some (.int 0))) hS hC rfl rfl rfl k

set_option maxRecDepth 20000 in
theorem bk_L_law_609 {ro : pm_RO} {Q : Option Value → pm_M → Prop} {mem : pm_M} {x3 s0 s1 : Int32} (k : (s1 = s0 → pm_Ex ro m_L_law 18 [.ref 52, .ref 0, .ref 33, .int (x3 + 6)] [] mem Q) ∧ (¬ (s1 = s0) → Q (some (.int 0)) mem)) : pm_Ex ro m_L_law 609 [.ref 52, .ref 0, .ref 33, .int x3] [.int s0, .int s1] mem Q := by
  have hS : pm_sig[m_L_law]? = some _ := rfl
  have hC : pm_cod[m_L_law]? = some _ := rfl
  refine ex_br (P := s1 = s0) (a := 1029) (b := 612) (ls' := [.ref 52, .ref 0, .ref 33, .int x3]) (st' := []) (mem' := mem) hS hC rfl (fun h => ?_) (fun h => ?_)
  · replace k := k.1 (h)
    refine ex_many (pc' := 18) (ls' := [.ref 52, .ref 0, .ref 33, .int (x3 + 6)]) (st' := []) (mem' := mem) hS hC 2 rfl ?_
    exact k
  · replace k := k.2 (h)
    refine ex_many (pc' := 613) (ls' := [.ref 52, .ref 0, .ref 33, .int x3]) (st' := [.int 0]) (mem' := mem) hS hC 1 rfl ?_
    exact ex_ret (v := (some (.int 0))) hS hC rfl rfl rfl k

set_option maxRecDepth 20000 in
theorem bk_L_law_642 {ro : pm_RO} {Q : Option Value → pm_M → Prop} {mem : pm_M} {x3 : Int32} {s0 s1 : Int64} (k : ((lg_cmp s1 s0) = 0 → pm_Ex ro m_L_law 18 [.ref 52, .ref 0, .ref 33, .int (x3 + 6)] [] mem Q) ∧ (¬ ((lg_cmp s1 s0) = 0) → Q (some (.int 0)) mem)) : pm_Ex ro m_L_law 642 [.ref 52, .ref 0, .ref 33, .int x3] [.long s0, .long s1] mem Q := by
  have hS : pm_sig[m_L_law]? = some _ := rfl
  have hC : pm_cod[m_L_law]? = some _ := rfl
  refine ex_many (pc' := 643) (ls' := [.ref 52, .ref 0, .ref 33, .int x3]) (st' := [.int (lg_cmp s1 s0)]) (mem' := mem) hS hC 1 rfl ?_
  refine ex_br (P := (lg_cmp s1 s0) = 0) (a := 1029) (b := 646) (ls' := [.ref 52, .ref 0, .ref 33, .int x3]) (st' := []) (mem' := mem) hS hC rfl (fun h => ?_) (fun h => ?_)
  · replace k := k.1 (h)
    refine ex_many (pc' := 18) (ls' := [.ref 52, .ref 0, .ref 33, .int (x3 + 6)]) (st' := []) (mem' := mem) hS hC 2 rfl ?_
    exact k
  · replace k := k.2 (h)
    refine ex_many (pc' := 647) (ls' := [.ref 52, .ref 0, .ref 33, .int x3]) (st' := [.int 0]) (mem' := mem) hS hC 1 rfl ?_
    exact ex_ret (v := (some (.int 0))) hS hC rfl rfl rfl k

set_option maxRecDepth 20000 in
theorem bk_L_law_676 {ro : pm_RO} {Q : Option Value → pm_M → Prop} {mem : pm_M} {x3 s0 s1 : Int32} (k : (s1 = s0 → pm_Ex ro m_L_law 18 [.ref 52, .ref 0, .ref 33, .int (x3 + 6)] [] mem Q) ∧ (¬ (s1 = s0) → Q (some (.int 0)) mem)) : pm_Ex ro m_L_law 676 [.ref 52, .ref 0, .ref 33, .int x3] [.int s0, .int s1] mem Q := by
  have hS : pm_sig[m_L_law]? = some _ := rfl
  have hC : pm_cod[m_L_law]? = some _ := rfl
  refine ex_br (P := s1 = s0) (a := 1029) (b := 679) (ls' := [.ref 52, .ref 0, .ref 33, .int x3]) (st' := []) (mem' := mem) hS hC rfl (fun h => ?_) (fun h => ?_)
  · replace k := k.1 (h)
    refine ex_many (pc' := 18) (ls' := [.ref 52, .ref 0, .ref 33, .int (x3 + 6)]) (st' := []) (mem' := mem) hS hC 2 rfl ?_
    exact k
  · replace k := k.2 (h)
    refine ex_many (pc' := 680) (ls' := [.ref 52, .ref 0, .ref 33, .int x3]) (st' := [.int 0]) (mem' := mem) hS hC 1 rfl ?_
    exact ex_ret (v := (some (.int 0))) hS hC rfl rfl rfl k

set_option maxRecDepth 20000 in
theorem bk_L_law_729 {ro : pm_RO} {Q : Option Value → pm_M → Prop} {mem : pm_M} {x3 s0 s1 : Int32} (k : (s1 = s0 → pm_Ex ro m_L_law 18 [.ref 52, .ref 0, .ref 33, .int (x3 + 6)] [] mem Q) ∧ (¬ (s1 = s0) → Q (some (.int 0)) mem)) : pm_Ex ro m_L_law 729 [.ref 52, .ref 0, .ref 33, .int x3] [.int s0, .int s1] mem Q := by
  have hS : pm_sig[m_L_law]? = some _ := rfl
  have hC : pm_cod[m_L_law]? = some _ := rfl
  refine ex_br (P := s1 = s0) (a := 1029) (b := 732) (ls' := [.ref 52, .ref 0, .ref 33, .int x3]) (st' := []) (mem' := mem) hS hC rfl (fun h => ?_) (fun h => ?_)
  · replace k := k.1 (h)
    refine ex_many (pc' := 18) (ls' := [.ref 52, .ref 0, .ref 33, .int (x3 + 6)]) (st' := []) (mem' := mem) hS hC 2 rfl ?_
    exact k
  · replace k := k.2 (h)
    refine ex_many (pc' := 733) (ls' := [.ref 52, .ref 0, .ref 33, .int x3]) (st' := [.int 0]) (mem' := mem) hS hC 1 rfl ?_
    exact ex_ret (v := (some (.int 0))) hS hC rfl rfl rfl k

set_option maxRecDepth 20000 in
theorem bk_L_law_772 {ro : pm_RO} {Q : Option Value → pm_M → Prop} {mem : pm_M} {x3 s0 s1 : Int32} (k : (s1 = s0 → pm_Ex ro m_L_law 18 [.ref 52, .ref 0, .ref 33, .int (x3 + 6)] [] mem Q) ∧ (¬ (s1 = s0) → Q (some (.int 0)) mem)) : pm_Ex ro m_L_law 772 [.ref 52, .ref 0, .ref 33, .int x3] [.int s0, .int s1] mem Q := by
  have hS : pm_sig[m_L_law]? = some _ := rfl
  have hC : pm_cod[m_L_law]? = some _ := rfl
  refine ex_br (P := s1 = s0) (a := 1029) (b := 775) (ls' := [.ref 52, .ref 0, .ref 33, .int x3]) (st' := []) (mem' := mem) hS hC rfl (fun h => ?_) (fun h => ?_)
  · replace k := k.1 (h)
    refine ex_many (pc' := 18) (ls' := [.ref 52, .ref 0, .ref 33, .int (x3 + 6)]) (st' := []) (mem' := mem) hS hC 2 rfl ?_
    exact k
  · replace k := k.2 (h)
    refine ex_many (pc' := 776) (ls' := [.ref 52, .ref 0, .ref 33, .int x3]) (st' := [.int 0]) (mem' := mem) hS hC 1 rfl ?_
    exact ex_ret (v := (some (.int 0))) hS hC rfl rfl rfl k

set_option maxRecDepth 20000 in
theorem bk_L_law_795 {ro : pm_RO} {Q : Option Value → pm_M → Prop} {mem : pm_M} {x3 s0 s1 : Int32} (k : (s1 = s0 → pm_Ex ro m_L_law 18 [.ref 52, .ref 0, .ref 33, .int (x3 + 6)] [] mem Q) ∧ (¬ (s1 = s0) → Q (some (.int 0)) mem)) : pm_Ex ro m_L_law 795 [.ref 52, .ref 0, .ref 33, .int x3] [.int s0, .int s1] mem Q := by
  have hS : pm_sig[m_L_law]? = some _ := rfl
  have hC : pm_cod[m_L_law]? = some _ := rfl
  refine ex_br (P := s1 = s0) (a := 1029) (b := 798) (ls' := [.ref 52, .ref 0, .ref 33, .int x3]) (st' := []) (mem' := mem) hS hC rfl (fun h => ?_) (fun h => ?_)
  · replace k := k.1 (h)
    refine ex_many (pc' := 18) (ls' := [.ref 52, .ref 0, .ref 33, .int (x3 + 6)]) (st' := []) (mem' := mem) hS hC 2 rfl ?_
    exact k
  · replace k := k.2 (h)
    refine ex_many (pc' := 799) (ls' := [.ref 52, .ref 0, .ref 33, .int x3]) (st' := [.int 0]) (mem' := mem) hS hC 1 rfl ?_
    exact ex_ret (v := (some (.int 0))) hS hC rfl rfl rfl k

set_option maxRecDepth 20000 in
theorem bk_L_law_848 {ro : pm_RO} {Q : Option Value → pm_M → Prop} {mem : pm_M} {x3 s0 s1 : Int32} (k : (s1 = s0 → pm_Ex ro m_L_law 18 [.ref 52, .ref 0, .ref 33, .int (x3 + 6)] [] mem Q) ∧ (¬ (s1 = s0) → Q (some (.int 0)) mem)) : pm_Ex ro m_L_law 848 [.ref 52, .ref 0, .ref 33, .int x3] [.int s0, .int s1] mem Q := by
  have hS : pm_sig[m_L_law]? = some _ := rfl
  have hC : pm_cod[m_L_law]? = some _ := rfl
  refine ex_br (P := s1 = s0) (a := 1029) (b := 851) (ls' := [.ref 52, .ref 0, .ref 33, .int x3]) (st' := []) (mem' := mem) hS hC rfl (fun h => ?_) (fun h => ?_)
  · replace k := k.1 (h)
    refine ex_many (pc' := 18) (ls' := [.ref 52, .ref 0, .ref 33, .int (x3 + 6)]) (st' := []) (mem' := mem) hS hC 2 rfl ?_
    exact k
  · replace k := k.2 (h)
    refine ex_many (pc' := 852) (ls' := [.ref 52, .ref 0, .ref 33, .int x3]) (st' := [.int 0]) (mem' := mem) hS hC 1 rfl ?_
    exact ex_ret (v := (some (.int 0))) hS hC rfl rfl rfl k

set_option maxRecDepth 20000 in
theorem bk_L_law_891 {ro : pm_RO} {Q : Option Value → pm_M → Prop} {mem : pm_M} {x3 s0 s1 : Int32} (k : (s1 = s0 → pm_Ex ro m_L_law 18 [.ref 52, .ref 0, .ref 33, .int (x3 + 6)] [] mem Q) ∧ (¬ (s1 = s0) → Q (some (.int 0)) mem)) : pm_Ex ro m_L_law 891 [.ref 52, .ref 0, .ref 33, .int x3] [.int s0, .int s1] mem Q := by
  have hS : pm_sig[m_L_law]? = some _ := rfl
  have hC : pm_cod[m_L_law]? = some _ := rfl
  refine ex_br (P := s1 = s0) (a := 1029) (b := 894) (ls' := [.ref 52, .ref 0, .ref 33, .int x3]) (st' := []) (mem' := mem) hS hC rfl (fun h => ?_) (fun h => ?_)
  · replace k := k.1 (h)
    refine ex_many (pc' := 18) (ls' := [.ref 52, .ref 0, .ref 33, .int (x3 + 6)]) (st' := []) (mem' := mem) hS hC 2 rfl ?_
    exact k
  · replace k := k.2 (h)
    refine ex_many (pc' := 895) (ls' := [.ref 52, .ref 0, .ref 33, .int x3]) (st' := [.int 0]) (mem' := mem) hS hC 1 rfl ?_
    exact ex_ret (v := (some (.int 0))) hS hC rfl rfl rfl k

set_option maxRecDepth 20000 in
theorem bk_L_law_954 {ro : pm_RO} {Q : Option Value → pm_M → Prop} {mem : pm_M} {x3 s0 s1 : Int32} (k : (s1 = s0 → pm_Ex ro m_L_law 18 [.ref 52, .ref 0, .ref 33, .int (x3 + 6)] [] mem Q) ∧ (¬ (s1 = s0) → Q (some (.int 0)) mem)) : pm_Ex ro m_L_law 954 [.ref 52, .ref 0, .ref 33, .int x3] [.int s0, .int s1] mem Q := by
  have hS : pm_sig[m_L_law]? = some _ := rfl
  have hC : pm_cod[m_L_law]? = some _ := rfl
  refine ex_br (P := s1 = s0) (a := 1029) (b := 957) (ls' := [.ref 52, .ref 0, .ref 33, .int x3]) (st' := []) (mem' := mem) hS hC rfl (fun h => ?_) (fun h => ?_)
  · replace k := k.1 (h)
    refine ex_many (pc' := 18) (ls' := [.ref 52, .ref 0, .ref 33, .int (x3 + 6)]) (st' := []) (mem' := mem) hS hC 2 rfl ?_
    exact k
  · replace k := k.2 (h)
    refine ex_many (pc' := 958) (ls' := [.ref 52, .ref 0, .ref 33, .int x3]) (st' := [.int 0]) (mem' := mem) hS hC 1 rfl ?_
    exact ex_ret (v := (some (.int 0))) hS hC rfl rfl rfl k

set_option maxRecDepth 20000 in
theorem bk_L_law_987 {ro : pm_RO} {Q : Option Value → pm_M → Prop} {mem : pm_M} {x3 s0 s1 : Int32} (k : (s1 = s0 → pm_Ex ro m_L_law 18 [.ref 52, .ref 0, .ref 33, .int (x3 + 6)] [] mem Q) ∧ (¬ (s1 = s0) → Q (some (.int 0)) mem)) : pm_Ex ro m_L_law 987 [.ref 52, .ref 0, .ref 33, .int x3] [.int s0, .int s1] mem Q := by
  have hS : pm_sig[m_L_law]? = some _ := rfl
  have hC : pm_cod[m_L_law]? = some _ := rfl
  refine ex_br (P := s1 = s0) (a := 1029) (b := 990) (ls' := [.ref 52, .ref 0, .ref 33, .int x3]) (st' := []) (mem' := mem) hS hC rfl (fun h => ?_) (fun h => ?_)
  · replace k := k.1 (h)
    refine ex_many (pc' := 18) (ls' := [.ref 52, .ref 0, .ref 33, .int (x3 + 6)]) (st' := []) (mem' := mem) hS hC 2 rfl ?_
    exact k
  · replace k := k.2 (h)
    refine ex_many (pc' := 991) (ls' := [.ref 52, .ref 0, .ref 33, .int x3]) (st' := [.int 0]) (mem' := mem) hS hC 1 rfl ?_
    exact ex_ret (v := (some (.int 0))) hS hC rfl rfl rfl k

set_option maxRecDepth 20000 in
theorem bk_L_law_1010 {ro : pm_RO} {Q : Option Value → pm_M → Prop} {mem : pm_M} {x3 s0 s1 : Int32} (k : (s1 = s0 → pm_Ex ro m_L_law 18 [.ref 52, .ref 0, .ref 33, .int (x3 + 6)] [] mem Q) ∧ (¬ (s1 = s0) → Q (some (.int 0)) mem)) : pm_Ex ro m_L_law 1010 [.ref 52, .ref 0, .ref 33, .int x3] [.int s0, .int s1] mem Q := by
  have hS : pm_sig[m_L_law]? = some _ := rfl
  have hC : pm_cod[m_L_law]? = some _ := rfl
  refine ex_br (P := s1 = s0) (a := 1029) (b := 1013) (ls' := [.ref 52, .ref 0, .ref 33, .int x3]) (st' := []) (mem' := mem) hS hC rfl (fun h => ?_) (fun h => ?_)
  · replace k := k.1 (h)
    refine ex_many (pc' := 18) (ls' := [.ref 52, .ref 0, .ref 33, .int (x3 + 6)]) (st' := []) (mem' := mem) hS hC 2 rfl ?_
    exact k
  · replace k := k.2 (h)
    refine ex_many (pc' := 1014) (ls' := [.ref 52, .ref 0, .ref 33, .int x3]) (st' := [.int 0]) (mem' := mem) hS hC 1 rfl ?_
    exact ex_ret (v := (some (.int 0))) hS hC rfl rfl rfl k

set_option maxRecDepth 20000 in
theorem bk_L_law_1023 {ro : pm_RO} {Q : Option Value → pm_M → Prop} {mem : pm_M} {x3 : Int32} {s0 s1 : Int64} (k : ((lg_cmp s1 s0) = 0 → pm_Ex ro m_L_law 18 [.ref 52, .ref 0, .ref 33, .int (x3 + 6)] [] mem Q) ∧ (¬ ((lg_cmp s1 s0) = 0) → Q (some (.int 0)) mem)) : pm_Ex ro m_L_law 1023 [.ref 52, .ref 0, .ref 33, .int x3] [.long s0, .long s1] mem Q := by
  have hS : pm_sig[m_L_law]? = some _ := rfl
  have hC : pm_cod[m_L_law]? = some _ := rfl
  refine ex_many (pc' := 1024) (ls' := [.ref 52, .ref 0, .ref 33, .int x3]) (st' := [.int (lg_cmp s1 s0)]) (mem' := mem) hS hC 1 rfl ?_
  refine ex_br (P := (lg_cmp s1 s0) = 0) (a := 1029) (b := 1027) (ls' := [.ref 52, .ref 0, .ref 33, .int x3]) (st' := []) (mem' := mem) hS hC rfl (fun h => ?_) (fun h => ?_)
  · replace k := k.1 (h)
    refine ex_many (pc' := 18) (ls' := [.ref 52, .ref 0, .ref 33, .int (x3 + 6)]) (st' := []) (mem' := mem) hS hC 2 rfl ?_
    exact k
  · replace k := k.2 (h)
    refine ex_many (pc' := 1028) (ls' := [.ref 52, .ref 0, .ref 33, .int x3]) (st' := [.int 0]) (mem' := mem) hS hC 1 rfl ?_
    exact ex_ret (v := (some (.int 0))) hS hC rfl rfl rfl k

