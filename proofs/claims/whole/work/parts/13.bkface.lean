set_option maxRecDepth 20000 in
theorem bk_X9_type_0 {ro : pm_RO} {Q : Option Value → pm_M → Prop} {mem : pm_M} {a1 : Int32} (k : (¬ (a1 < (0 : Int32)) ∧ (¬ ((255 : Int32) < a1)) → ((mem 3 2) < 50 → pm_Ex ro m_X1_append 0 [.ref 3, .int a1] [] mem (fun v m => pm_Ex ro m_X9_type 37 [.ref 0, .int a1] (v.toList ++ []) m Q)) ∧ (¬ ((mem 3 2) < 50) → Q (some (.int (-4))) mem)) ∧ (¬ (¬ (a1 < (0 : Int32)) ∧ (¬ ((255 : Int32) < a1))) → Q (some (.int (-2))) mem)) : pm_Ex ro m_X9_type 0 [.ref 0, .int a1] [] mem Q := by
  have hS : pm_sig[m_X9_type]? = some _ := rfl
  have hC : pm_cod[m_X9_type]? = some _ := rfl
  refine ex_many (pc' := 5) (ls' := [.ref 0, .int a1]) (st' := [.int 255, .int 0, .int a1]) (mem' := mem) hS hC 3 rfl ?_
  refine ex_call (y' := m_X9_within) (rest := []) (ent := [.int a1, .int 0, .int 255]) hS hC rfl rfl rfl rfl rfl rfl ?_
  refine bk_X9_within_0 ?_
  show pm_Ex ro m_X9_type 8 [.ref 0, .int a1] [.int (zb (¬ (a1 < (0 : Int32)) ∧ (¬ ((255 : Int32) < a1))))] mem Q
  refine ex_br (P := ¬ (zb (¬ (a1 < (0 : Int32)) ∧ (¬ ((255 : Int32) < a1)))) = 0) (a := 14) (b := 11) (ls' := [.ref 0, .int a1]) (st' := []) (mem' := mem) hS hC rfl (fun h => ?_) (fun h => ?_)
  · replace k := k.1 (zb1 h)
    refine ex_many (pc' := 18) (ls' := [.ref 0, .int a1]) (st' := [.ref 3]) (mem' := mem) hS hC 2 rfl ?_
    refine ex_call (y' := m_X1_length) (rest := []) (ent := [.ref 3]) hS hC rfl rfl rfl rfl rfl rfl ?_
    refine bk_X1_length_0 ?_
    show pm_Ex ro m_X9_type 21 [.ref 0, .int a1] [.int (mem 3 2)] mem Q
    refine ex_many (pc' := 23) (ls' := [.ref 0, .int a1]) (st' := [.int 50, .int (mem 3 2)]) (mem' := mem) hS hC 1 rfl ?_
    refine ex_br (P := (mem 3 2) < 50) (a := 29) (b := 26) (ls' := [.ref 0, .int a1]) (st' := []) (mem' := mem) hS hC rfl (fun h => ?_) (fun h => ?_)
    · replace k := k.1 (h)
      refine ex_many (pc' := 34) (ls' := [.ref 0, .int a1]) (st' := [.int a1, .ref 3]) (mem' := mem) hS hC 3 rfl ?_
      refine ex_call (y' := m_X1_append) (rest := []) (ent := [.ref 3, .int a1]) hS hC rfl rfl rfl rfl rfl rfl ?_
      exact k
    · replace k := k.2 (h)
      refine ex_many (pc' := 28) (ls' := [.ref 0, .int a1]) (st' := [.int (-4)]) (mem' := mem) hS hC 1 rfl ?_
      exact ex_ret (v := (some (.int (-4)))) hS hC rfl rfl rfl k
  · replace k := k.2 (zb0n h)
    refine ex_many (pc' := 13) (ls' := [.ref 0, .int a1]) (st' := [.int (-2)]) (mem' := mem) hS hC 1 rfl ?_
    exact ex_ret (v := (some (.int (-2)))) hS hC rfl rfl rfl k

set_option maxRecDepth 20000 in
theorem bk_X9_type_37 {ro : pm_RO} {Q : Option Value → pm_M → Prop} {mem : pm_M} {x1 : Int32} (k : Q (some (.int (mem 3 2))) (pm_up (pm_up mem 6 6 0) 6 7 0)) : pm_Ex ro m_X9_type 37 [.ref 0, .int x1] [] mem Q := by
  have hS : pm_sig[m_X9_type]? = some _ := rfl
  have hC : pm_cod[m_X9_type]? = some _ := rfl
  refine ex_many (pc' := 41) (ls' := [.ref 0, .int x1]) (st' := [.ref 6]) (mem' := mem) hS hC 2 rfl ?_
  refine ex_call (y' := m_X7_forget) (rest := []) (ent := [.ref 6]) hS hC rfl rfl rfl rfl rfl rfl ?_
  refine bk_X7_forget_0 ?_
  show pm_Ex ro m_X9_type 44 [.ref 0, .int x1] [] (pm_up (pm_up mem 6 6 0) 6 7 0) Q
  refine ex_many (pc' := 48) (ls' := [.ref 0, .int x1]) (st' := [.ref 3]) (mem' := pm_up (pm_up mem 6 6 0) 6 7 0) hS hC 2 rfl ?_
  refine ex_call (y' := m_X1_length) (rest := []) (ent := [.ref 3]) hS hC rfl rfl rfl rfl rfl rfl ?_
  refine bk_X1_length_0 ?_
  show pm_Ex ro m_X9_type 51 [.ref 0, .int x1] [.int (mem 3 2)] (pm_up (pm_up mem 6 6 0) 6 7 0) Q
  exact ex_ret (v := (some (.int (mem 3 2)))) hS hC rfl rfl rfl k

set_option maxRecDepth 20000 in
theorem bk_X9_wipe_0 {ro : pm_RO} {Q : Option Value → pm_M → Prop} {mem : pm_M} (k : pm_Ex ro m_X1_clear 0 [.ref 3] [] mem (fun v m => pm_Ex ro m_X9_wipe 15 [.ref 0, .int (mem 3 2)] (v.toList ++ []) m Q)) : pm_Ex ro m_X9_wipe 0 [.ref 0, .null] [] mem Q := by
  have hS : pm_sig[m_X9_wipe]? = some _ := rfl
  have hC : pm_cod[m_X9_wipe]? = some _ := rfl
  refine ex_many (pc' := 4) (ls' := [.ref 0, .null]) (st' := [.ref 3]) (mem' := mem) hS hC 2 rfl ?_
  refine ex_call (y' := m_X1_length) (rest := []) (ent := [.ref 3]) hS hC rfl rfl rfl rfl rfl rfl ?_
  refine bk_X1_length_0 ?_
  show pm_Ex ro m_X9_wipe 7 [.ref 0, .null] [.int (mem 3 2)] mem Q
  refine ex_many (pc' := 12) (ls' := [.ref 0, .int (mem 3 2)]) (st' := [.ref 3]) (mem' := mem) hS hC 3 rfl ?_
  refine ex_call (y' := m_X1_clear) (rest := []) (ent := [.ref 3]) hS hC rfl rfl rfl rfl rfl rfl ?_
  exact k

set_option maxRecDepth 20000 in
theorem bk_X9_wipe_15 {ro : pm_RO} {Q : Option Value → pm_M → Prop} {mem : pm_M} {x1 : Int32} (k : Q (some (.int x1)) (pm_up (pm_up mem 6 6 0) 6 7 0)) : pm_Ex ro m_X9_wipe 15 [.ref 0, .int x1] [] mem Q := by
  have hS : pm_sig[m_X9_wipe]? = some _ := rfl
  have hC : pm_cod[m_X9_wipe]? = some _ := rfl
  refine ex_many (pc' := 19) (ls' := [.ref 0, .int x1]) (st' := [.ref 6]) (mem' := mem) hS hC 2 rfl ?_
  refine ex_call (y' := m_X7_forget) (rest := []) (ent := [.ref 6]) hS hC rfl rfl rfl rfl rfl rfl ?_
  refine bk_X7_forget_0 ?_
  show pm_Ex ro m_X9_wipe 22 [.ref 0, .int x1] [] (pm_up (pm_up mem 6 6 0) 6 7 0) Q
  refine ex_many (pc' := 23) (ls' := [.ref 0, .int x1]) (st' := [.int x1]) (mem' := pm_up (pm_up mem 6 6 0) 6 7 0) hS hC 1 rfl ?_
  exact ex_ret (v := (some (.int x1))) hS hC rfl rfl rfl k

set_option maxRecDepth 20000 in
theorem bk_X9_fault_0 {ro : pm_RO} {Q : Option Value → pm_M → Prop} {mem : pm_M} (k : Q (some (.int (mem 3 5))) mem) : pm_Ex ro m_X9_fault 0 [.ref 0] [] mem Q := by
  have hS : pm_sig[m_X9_fault]? = some _ := rfl
  have hC : pm_cod[m_X9_fault]? = some _ := rfl
  refine ex_many (pc' := 4) (ls' := [.ref 0]) (st' := [.ref 3]) (mem' := mem) hS hC 2 rfl ?_
  refine ex_call (y' := m_X1_faultPlace) (rest := []) (ent := [.ref 3]) hS hC rfl rfl rfl rfl rfl rfl ?_
  refine bk_X1_faultPlace_0 ?_
  show pm_Ex ro m_X9_fault 7 [.ref 0] [.int (mem 3 5)] mem Q
  exact ex_ret (v := (some (.int (mem 3 5)))) hS hC rfl rfl rfl k

set_option maxRecDepth 20000 in
theorem bk_X9_good_0 {ro : pm_RO} {Q : Option Value → pm_M → Prop} {mem : pm_M} {a1 a2 : Int32} (k : (¬ (a1 < (0 : Int32)) ∧ (¬ (((mem 3 3) - 1) < a1)) → pm_Ex ro m_X9_good 12 [.ref 0, .int a1, .int a2] [.int a2] mem Q) ∧ (¬ (¬ (a1 < (0 : Int32)) ∧ (¬ (((mem 3 3) - 1) < a1))) → Q (some (.int (-2))) mem)) : pm_Ex ro m_X9_good 0 [.ref 0, .int a1, .int a2] [] mem Q := by
  have hS : pm_sig[m_X9_good]? = some _ := rfl
  have hC : pm_cod[m_X9_good]? = some _ := rfl
  refine ex_many (pc' := 2) (ls' := [.ref 0, .int a1, .int a2]) (st' := [.int a1, .ref 0]) (mem' := mem) hS hC 2 rfl ?_
  refine ex_call (y' := m_X9_isGood) (rest := []) (ent := [.ref 0, .int a1]) hS hC rfl rfl rfl rfl rfl rfl ?_
  refine bk_X9_isGood_0 ?_
  show pm_Ex ro m_X9_good 5 [.ref 0, .int a1, .int a2] [.int (zb (¬ (a1 < (0 : Int32)) ∧ (¬ (((mem 3 3) - 1) < a1))))] mem Q
  refine ex_br (P := ¬ (zb (¬ (a1 < (0 : Int32)) ∧ (¬ (((mem 3 3) - 1) < a1)))) = 0) (a := 11) (b := 8) (ls' := [.ref 0, .int a1, .int a2]) (st' := []) (mem' := mem) hS hC rfl (fun h => ?_) (fun h => ?_)
  · replace k := k.1 (zb1 h)
    refine ex_many (pc' := 12) (ls' := [.ref 0, .int a1, .int a2]) (st' := [.int a2]) (mem' := mem) hS hC 1 rfl ?_
    exact k
  · replace k := k.2 (zb0n h)
    refine ex_many (pc' := 10) (ls' := [.ref 0, .int a1, .int a2]) (st' := [.int (-2)]) (mem' := mem) hS hC 1 rfl ?_
    exact ex_ret (v := (some (.int (-2)))) hS hC rfl rfl rfl k

set_option maxRecDepth 20000 in
theorem bk_X9_good_12_c0 {ro : pm_RO} {Q : Option Value → pm_M → Prop} {mem : pm_M} {x1 x2 : Int32} (k : (pm_inb x1 8 = true) ∧ (Q (some (.int (mem 5 x1.toNatClampNeg))) mem)) : pm_Ex ro m_X9_good 12 [.ref 0, .int x1, .int x2] [.int 0] mem Q := by
  have hS : pm_sig[m_X9_good]? = some _ := rfl
  have hC : pm_cod[m_X9_good]? = some _ := rfl
  refine ex_one (pc' := 40) (ls' := [.ref 0, .int x1, .int x2]) (st' := []) (mem' := mem) hS hC rfl ?_
  refine ex_many (pc' := 45) (ls' := [.ref 0, .int x1, .int x2]) (st' := [.int x1, .ref 3]) (mem' := mem) hS hC 3 rfl ?_
  refine ex_call (y' := m_X1_priceOf) (rest := []) (ent := [.ref 3, .int x1]) hS hC rfl rfl rfl rfl rfl rfl ?_
  refine bk_X1_priceOf_0 ⟨k.1, ?_⟩
  replace k := k.2
  show pm_Ex ro m_X9_good 48 [.ref 0, .int x1, .int x2] [.int (mem 5 x1.toNatClampNeg)] mem Q
  exact ex_ret (v := (some (.int (mem 5 x1.toNatClampNeg)))) hS hC rfl rfl rfl k

set_option maxRecDepth 20000 in
theorem bk_X9_good_12_c1 {ro : pm_RO} {Q : Option Value → pm_M → Prop} {mem : pm_M} {x1 x2 : Int32} (k : Q (some (.int (zb (¬ (((mem 3 4) &&& ((1 : Int32) <<< (x1 &&& 31))) = 0))))) mem) : pm_Ex ro m_X9_good 12 [.ref 0, .int x1, .int x2] [.int 1] mem Q := by
  have hS : pm_sig[m_X9_good]? = some _ := rfl
  have hC : pm_cod[m_X9_good]? = some _ := rfl
  refine ex_one (pc' := 49) (ls' := [.ref 0, .int x1, .int x2]) (st' := []) (mem' := mem) hS hC rfl ?_
  refine ex_many (pc' := 54) (ls' := [.ref 0, .int x1, .int x2]) (st' := [.int x1, .ref 3]) (mem' := mem) hS hC 3 rfl ?_
  refine ex_call (y' := m_X1_isWanted) (rest := []) (ent := [.ref 3, .int x1]) hS hC rfl rfl rfl rfl rfl rfl ?_
  refine bk_X1_isWanted_0 ?_
  show pm_Ex ro m_X9_good 57 [.ref 0, .int x1, .int x2] [.int (zb (¬ (((mem 3 4) &&& ((1 : Int32) <<< (x1 &&& 31))) = 0)))] mem Q
  have kp28 : pm_Ex ro m_X9_good 65 [.ref 0, .int x1, .int x2] [.int (zb (¬ (((mem 3 4) &&& ((1 : Int32) <<< (x1 &&& 31))) = 0)))] mem Q := by
    exact ex_ret (v := (some (.int (zb (¬ (((mem 3 4) &&& ((1 : Int32) <<< (x1 &&& 31))) = 0)))))) hS hC rfl rfl rfl k
  refine ex_br (P := (zb (¬ (((mem 3 4) &&& ((1 : Int32) <<< (x1 &&& 31))) = 0))) = 0) (a := 64) (b := 60) (ls' := [.ref 0, .int x1, .int x2]) (st' := []) (mem' := mem) hS hC rfl (fun h => ?_) (fun h => ?_)
  · have kp28a : pm_Ex ro m_X9_good 65 [.ref 0, .int x1, .int x2] [.int 0] mem Q := pm_phi1 (f := fun z0 => pm_Ex ro m_X9_good 65 [.ref 0, .int x1, .int x2] [.int z0] mem Q) (zb_neg (zb0 h)) kp28
    refine ex_many (pc' := 65) (ls' := [.ref 0, .int x1, .int x2]) (st' := [.int 0]) (mem' := mem) hS hC 1 rfl ?_
    exact kp28a
  · have kp28b : pm_Ex ro m_X9_good 65 [.ref 0, .int x1, .int x2] [.int 1] mem Q := pm_phi1 (f := fun z0 => pm_Ex ro m_X9_good 65 [.ref 0, .int x1, .int x2] [.int z0] mem Q) (zb_pos (zb1 h)) kp28
    refine ex_many (pc' := 65) (ls' := [.ref 0, .int x1, .int x2]) (st' := [.int 1]) (mem' := mem) hS hC 2 rfl ?_
    exact kp28b

set_option maxRecDepth 20000 in
theorem bk_X9_good_12_c2 {ro : pm_RO} {Q : Option Value → pm_M → Prop} {mem : pm_M} {x1 x2 : Int32} (k : (pm_inb x1 8 = true) ∧ (Q (some (.int (mem 12 x1.toNatClampNeg))) mem)) : pm_Ex ro m_X9_good 12 [.ref 0, .int x1, .int x2] [.int 2] mem Q := by
  have hS : pm_sig[m_X9_good]? = some _ := rfl
  have hC : pm_cod[m_X9_good]? = some _ := rfl
  refine ex_one (pc' := 66) (ls' := [.ref 0, .int x1, .int x2]) (st' := []) (mem' := mem) hS hC rfl ?_
  refine ex_many (pc' := 71) (ls' := [.ref 0, .int x1, .int x2]) (st' := [.int x1, .ref 11]) (mem' := mem) hS hC 3 rfl ?_
  refine ex_call (y' := m_X4_ownerOf) (rest := []) (ent := [.ref 11, .int x1]) hS hC rfl rfl rfl rfl rfl rfl ?_
  refine bk_X4_ownerOf_0 ⟨k.1, ?_⟩
  replace k := k.2
  show pm_Ex ro m_X9_good 74 [.ref 0, .int x1, .int x2] [.int (mem 12 x1.toNatClampNeg)] mem Q
  exact ex_ret (v := (some (.int (mem 12 x1.toNatClampNeg)))) hS hC rfl rfl rfl k

set_option maxRecDepth 20000 in
theorem bk_X9_good_12_d {ro : pm_RO} {Q : Option Value → pm_M → Prop} {mem : pm_M} {x1 x2 s0 : Int32} (h0 : ¬ s0 = 0) (h1 : ¬ s0 = 1) (h2 : ¬ s0 = 2) (k : Q (some (.int (-2))) mem) : pm_Ex ro m_X9_good 12 [.ref 0, .int x1, .int x2] [.int s0] mem Q := by
  have hS : pm_sig[m_X9_good]? = some _ := rfl
  have hC : pm_cod[m_X9_good]? = some _ := rfl
  refine ex_tswd hS hC rfl (a := 75) rfl (pm_out3 h0 h1 h2) ?_
  refine ex_many (pc' := 77) (ls' := [.ref 0, .int x1, .int x2]) (st' := [.int (-2)]) (mem' := mem) hS hC 1 rfl ?_
  exact ex_ret (v := (some (.int (-2)))) hS hC rfl rfl rfl k

set_option maxRecDepth 20000 in
theorem bk_X9_set_0 {ro : pm_RO} {Q : Option Value → pm_M → Prop} {mem : pm_M} {rf49 : Nat → Int32} (hr49 : ro 49 = some (4, rf49)) {rf50 : Nat → Int32} (hr50 : ro 50 = some (4, rf50)) {a1 a2 : Int32} (k : (¬ (a1 < (0 : Int32)) ∧ (¬ ((3 : Int32) < a1)) → (pm_inb a1 4 = true) ∧ ((pm_inb a1 4 = true) ∧ ((¬ (a2 < (rf49 a1.toNatClampNeg)) ∧ (¬ ((rf50 a1.toNatClampNeg) < a2)) → (pm_inb a1 4 = true) ∧ ((pm_inb a1 4 = true) ∧ (Q (some (.int (mem 2 a1.toNatClampNeg))) (pm_up (pm_up (pm_up (pm_up mem 2 a1.toNatClampNeg a2) 6 6 0) 6 7 0) 15 2 0)))) ∧ (¬ (¬ (a2 < (rf49 a1.toNatClampNeg)) ∧ (¬ ((rf50 a1.toNatClampNeg) < a2))) → Q (some (.int (-2))) mem)))) ∧ (¬ (¬ (a1 < (0 : Int32)) ∧ (¬ ((3 : Int32) < a1))) → Q (some (.int (-2))) mem)) : pm_Ex ro m_X9_set 0 [.ref 0, .int a1, .int a2, .null] [] mem Q := by
  have hS : pm_sig[m_X9_set]? = some _ := rfl
  have hC : pm_cod[m_X9_set]? = some _ := rfl
  refine ex_many (pc' := 3) (ls' := [.ref 0, .int a1, .int a2, .null]) (st' := [.int 3, .int 0, .int a1]) (mem' := mem) hS hC 3 rfl ?_
  refine ex_call (y' := m_X9_within) (rest := []) (ent := [.int a1, .int 0, .int 3]) hS hC rfl rfl rfl rfl rfl rfl ?_
  refine bk_X9_within_0 ?_
  show pm_Ex ro m_X9_set 6 [.ref 0, .int a1, .int a2, .null] [.int (zb (¬ (a1 < (0 : Int32)) ∧ (¬ ((3 : Int32) < a1))))] mem Q
  refine ex_br (P := (zb (¬ (a1 < (0 : Int32)) ∧ (¬ ((3 : Int32) < a1)))) = 0) (a := 26) (b := 9) (ls' := [.ref 0, .int a1, .int a2, .null]) (st' := []) (mem' := mem) hS hC rfl (fun h => ?_) (fun h => ?_)
  · replace k := k.2 (zb0 h)
    refine ex_many (pc' := 28) (ls' := [.ref 0, .int a1, .int a2, .null]) (st' := [.int (-2)]) (mem' := mem) hS hC 1 rfl ?_
    exact ex_ret (v := (some (.int (-2)))) hS hC rfl rfl rfl k
  · replace k := k.1 (zb1 h)
    refine ex_many (pc' := 14) (ls' := [.ref 0, .int a1, .int a2, .null]) (st' := [.int a1, .ref 49, .int a2]) (mem' := mem) hS hC 3 rfl ?_
    refine ex_aldR hS hC rfl rfl hr49 k.1 ?_
    replace k := k.2
    show pm_Ex ro m_X9_set 15 [.ref 0, .int a1, .int a2, .null] [.int (rf49 a1.toNatClampNeg), .int a2] mem Q
    refine ex_many (pc' := 19) (ls' := [.ref 0, .int a1, .int a2, .null]) (st' := [.int a1, .ref 50, .int (rf49 a1.toNatClampNeg), .int a2]) (mem' := mem) hS hC 2 rfl ?_
    refine ex_aldR hS hC rfl rfl hr50 k.1 ?_
    replace k := k.2
    show pm_Ex ro m_X9_set 20 [.ref 0, .int a1, .int a2, .null] [.int (rf50 a1.toNatClampNeg), .int (rf49 a1.toNatClampNeg), .int a2] mem Q
    refine ex_call (y' := m_X9_within) (rest := []) (ent := [.int a2, .int (rf49 a1.toNatClampNeg), .int (rf50 a1.toNatClampNeg)]) hS hC rfl rfl rfl rfl rfl rfl ?_
    refine bk_X9_within_0 ?_
    show pm_Ex ro m_X9_set 23 [.ref 0, .int a1, .int a2, .null] [.int (zb (¬ (a2 < (rf49 a1.toNatClampNeg)) ∧ (¬ ((rf50 a1.toNatClampNeg) < a2))))] mem Q
    refine ex_br (P := ¬ (zb (¬ (a2 < (rf49 a1.toNatClampNeg)) ∧ (¬ ((rf50 a1.toNatClampNeg) < a2)))) = 0) (a := 29) (b := 26) (ls' := [.ref 0, .int a1, .int a2, .null]) (st' := []) (mem' := mem) hS hC rfl (fun h => ?_) (fun h => ?_)
    · replace k := k.1 (zb1 h)
      refine ex_many (pc' := 34) (ls' := [.ref 0, .int a1, .int a2, .null]) (st' := [.int a1, .ref 1]) (mem' := mem) hS hC 3 rfl ?_
      refine ex_call (y' := m_X2_valueOf) (rest := []) (ent := [.ref 1, .int a1]) hS hC rfl rfl rfl rfl rfl rfl ?_
      refine bk_X2_valueOf_0 ⟨k.1, ?_⟩
      replace k := k.2
      show pm_Ex ro m_X9_set 37 [.ref 0, .int a1, .int a2, .null] [.int (mem 2 a1.toNatClampNeg)] mem Q
      refine ex_many (pc' := 44) (ls' := [.ref 0, .int a1, .int a2, .int (mem 2 a1.toNatClampNeg)]) (st' := [.int a2, .int a1, .ref 1]) (mem' := mem) hS hC 5 rfl ?_
      refine ex_call (y' := m_X2_change) (rest := []) (ent := [.ref 1, .int a1, .int a2]) hS hC rfl rfl rfl rfl rfl rfl ?_
      refine bk_X2_change_0 ⟨k.1, ?_⟩
      replace k := k.2
      show pm_Ex ro m_X9_set 47 [.ref 0, .int a1, .int a2, .int (mem 2 a1.toNatClampNeg)] [] (pm_up mem 2 a1.toNatClampNeg a2) Q
      refine ex_many (pc' := 51) (ls' := [.ref 0, .int a1, .int a2, .int (mem 2 a1.toNatClampNeg)]) (st' := [.ref 6]) (mem' := pm_up mem 2 a1.toNatClampNeg a2) hS hC 2 rfl ?_
      refine ex_call (y' := m_X7_forget) (rest := []) (ent := [.ref 6]) hS hC rfl rfl rfl rfl rfl rfl ?_
      refine bk_X7_forget_0 ?_
      show pm_Ex ro m_X9_set 54 [.ref 0, .int a1, .int a2, .int (mem 2 a1.toNatClampNeg)] [] (pm_up (pm_up (pm_up mem 2 a1.toNatClampNeg a2) 6 6 0) 6 7 0) Q
      refine ex_many (pc' := 58) (ls' := [.ref 0, .int a1, .int a2, .int (mem 2 a1.toNatClampNeg)]) (st' := [.ref 15]) (mem' := pm_up (pm_up (pm_up mem 2 a1.toNatClampNeg a2) 6 6 0) 6 7 0) hS hC 2 rfl ?_
      refine ex_call (y' := m_X0_forget) (rest := []) (ent := [.ref 15]) hS hC rfl rfl rfl rfl rfl rfl ?_
      refine bk_X0_forget_0 ?_
      show pm_Ex ro m_X9_set 61 [.ref 0, .int a1, .int a2, .int (mem 2 a1.toNatClampNeg)] [] (pm_up (pm_up (pm_up (pm_up mem 2 a1.toNatClampNeg a2) 6 6 0) 6 7 0) 15 2 0) Q
      refine ex_many (pc' := 62) (ls' := [.ref 0, .int a1, .int a2, .int (mem 2 a1.toNatClampNeg)]) (st' := [.int (mem 2 a1.toNatClampNeg)]) (mem' := pm_up (pm_up (pm_up (pm_up mem 2 a1.toNatClampNeg a2) 6 6 0) 6 7 0) 15 2 0) hS hC 1 rfl ?_
      exact ex_ret (v := (some (.int (mem 2 a1.toNatClampNeg)))) hS hC rfl rfl rfl k
    · replace k := k.2 (zb0n h)
      refine ex_many (pc' := 28) (ls' := [.ref 0, .int a1, .int a2, .null]) (st' := [.int (-2)]) (mem' := mem) hS hC 1 rfl ?_
      exact ex_ret (v := (some (.int (-2)))) hS hC rfl rfl rfl k

set_option maxRecDepth 20000 in
theorem bk_X9_partner_0 {ro : pm_RO} {Q : Option Value → pm_M → Prop} {mem : pm_M} {a1 a2 : Int32} (k : (¬ (a1 < (0 : Int32)) ∧ (¬ ((7 : Int32) < a1)) → (¬ (a2 < (0 : Int32)) ∧ (¬ ((3 : Int32) < a2)) → (pm_inb a1 8 = true) ∧ ((pm_inb a1 8 = true) ∧ (Q (some (.int (mem 12 a1.toNatClampNeg))) (pm_up mem 12 a1.toNatClampNeg a2)))) ∧ (¬ (¬ (a2 < (0 : Int32)) ∧ (¬ ((3 : Int32) < a2))) → Q (some (.int (-2))) mem)) ∧ (¬ (¬ (a1 < (0 : Int32)) ∧ (¬ ((7 : Int32) < a1))) → Q (some (.int (-2))) mem)) : pm_Ex ro m_X9_partner 0 [.ref 0, .int a1, .int a2, .null] [] mem Q := by
  have hS : pm_sig[m_X9_partner]? = some _ := rfl
  have hC : pm_cod[m_X9_partner]? = some _ := rfl
  refine ex_many (pc' := 4) (ls' := [.ref 0, .int a1, .int a2, .null]) (st' := [.int 7, .int 0, .int a1]) (mem' := mem) hS hC 3 rfl ?_
  refine ex_call (y' := m_X9_within) (rest := []) (ent := [.int a1, .int 0, .int 7]) hS hC rfl rfl rfl rfl rfl rfl ?_
  refine bk_X9_within_0 ?_
  show pm_Ex ro m_X9_partner 7 [.ref 0, .int a1, .int a2, .null] [.int (zb (¬ (a1 < (0 : Int32)) ∧ (¬ ((7 : Int32) < a1))))] mem Q
  refine ex_br (P := (zb (¬ (a1 < (0 : Int32)) ∧ (¬ ((7 : Int32) < a1)))) = 0) (a := 17) (b := 10) (ls' := [.ref 0, .int a1, .int a2, .null]) (st' := []) (mem' := mem) hS hC rfl (fun h => ?_) (fun h => ?_)
  · replace k := k.2 (zb0 h)
    refine ex_many (pc' := 19) (ls' := [.ref 0, .int a1, .int a2, .null]) (st' := [.int (-2)]) (mem' := mem) hS hC 1 rfl ?_
    exact ex_ret (v := (some (.int (-2)))) hS hC rfl rfl rfl k
  · replace k := k.1 (zb1 h)
    refine ex_many (pc' := 11) (ls' := [.ref 0, .int a1, .int a2, .null]) (st' := [.int a2]) (mem' := mem) hS hC 1 rfl ?_
    refine ex_call (y' := m_X9_isPartner) (rest := []) (ent := [.int a2]) hS hC rfl rfl rfl rfl rfl rfl ?_
    refine bk_X9_isPartner_0 ?_
    show pm_Ex ro m_X9_partner 14 [.ref 0, .int a1, .int a2, .null] [.int (zb (¬ (a2 < (0 : Int32)) ∧ (¬ ((3 : Int32) < a2))))] mem Q
    refine ex_br (P := ¬ (zb (¬ (a2 < (0 : Int32)) ∧ (¬ ((3 : Int32) < a2)))) = 0) (a := 20) (b := 17) (ls' := [.ref 0, .int a1, .int a2, .null]) (st' := []) (mem' := mem) hS hC rfl (fun h => ?_) (fun h => ?_)
    · replace k := k.1 (zb1 h)
      refine ex_many (pc' := 25) (ls' := [.ref 0, .int a1, .int a2, .null]) (st' := [.int a1, .ref 11]) (mem' := mem) hS hC 3 rfl ?_
      refine ex_call (y' := m_X4_ownerOf) (rest := []) (ent := [.ref 11, .int a1]) hS hC rfl rfl rfl rfl rfl rfl ?_
      refine bk_X4_ownerOf_0 ⟨k.1, ?_⟩
      replace k := k.2
      show pm_Ex ro m_X9_partner 28 [.ref 0, .int a1, .int a2, .null] [.int (mem 12 a1.toNatClampNeg)] mem Q
      refine ex_many (pc' := 35) (ls' := [.ref 0, .int a1, .int a2, .int (mem 12 a1.toNatClampNeg)]) (st' := [.int a2, .int a1, .ref 11]) (mem' := mem) hS hC 5 rfl ?_
      refine ex_call (y' := m_X4_give) (rest := []) (ent := [.ref 11, .int a1, .int a2]) hS hC rfl rfl rfl rfl rfl rfl ?_
      refine bk_X4_give_0 ⟨k.1, ?_⟩
      replace k := k.2
      show pm_Ex ro m_X9_partner 38 [.ref 0, .int a1, .int a2, .int (mem 12 a1.toNatClampNeg)] [] (pm_up mem 12 a1.toNatClampNeg a2) Q
      refine ex_many (pc' := 39) (ls' := [.ref 0, .int a1, .int a2, .int (mem 12 a1.toNatClampNeg)]) (st' := [.int (mem 12 a1.toNatClampNeg)]) (mem' := pm_up mem 12 a1.toNatClampNeg a2) hS hC 1 rfl ?_
      exact ex_ret (v := (some (.int (mem 12 a1.toNatClampNeg)))) hS hC rfl rfl rfl k
    · replace k := k.2 (zb0n h)
      refine ex_many (pc' := 19) (ls' := [.ref 0, .int a1, .int a2, .null]) (st' := [.int (-2)]) (mem' := mem) hS hC 1 rfl ?_
      exact ex_ret (v := (some (.int (-2)))) hS hC rfl rfl rfl k

set_option maxRecDepth 20000 in
theorem bk_X9_read_0 {ro : pm_RO} {Q : Option Value → pm_M → Prop} {mem : pm_M} {a1 : Int32} (k : (¬ (a1 < (0 : Int32)) ∧ (¬ ((3 : Int32) < a1)) → (pm_inb a1 4 = true) ∧ ((¬ (¬ (mem (24 + 2 * a1.toNatClampNeg) 1) = (-1)) → Q (some (.int ((-10) - (1 : Int32)))) (pm_up mem 0 10 (1 : Int32))) ∧ (¬ (¬ (¬ (mem (24 + 2 * a1.toNatClampNeg) 1) = (-1))) → pm_Ex ro m_X9_read 43 [.ref 0, .int a1, .ref (24 + 2 * a1.toNatClampNeg), .int (if 8 < (mem (24 + 2 * a1.toNatClampNeg) 2) then 8 else (mem (24 + 2 * a1.toNatClampNeg) 2)), .int 0] [] mem Q))) ∧ (¬ (¬ (a1 < (0 : Int32)) ∧ (¬ ((3 : Int32) < a1))) → Q (some (.int (-2))) mem)) : pm_Ex ro m_X9_read 0 [.ref 0, .int a1, .null, .null, .null] [] mem Q := by
  have hS : pm_sig[m_X9_read]? = some _ := rfl
  have hC : pm_cod[m_X9_read]? = some _ := rfl
  refine ex_many (pc' := 1) (ls' := [.ref 0, .int a1, .null, .null, .null]) (st' := [.int a1]) (mem' := mem) hS hC 1 rfl ?_
  refine ex_call (y' := m_X9_isSheet) (rest := []) (ent := [.int a1]) hS hC rfl rfl rfl rfl rfl rfl ?_
  refine bk_X9_isSheet_0 ?_
  show pm_Ex ro m_X9_read 4 [.ref 0, .int a1, .null, .null, .null] [.int (zb (¬ (a1 < (0 : Int32)) ∧ (¬ ((3 : Int32) < a1))))] mem Q
  refine ex_br (P := ¬ (zb (¬ (a1 < (0 : Int32)) ∧ (¬ ((3 : Int32) < a1)))) = 0) (a := 10) (b := 7) (ls' := [.ref 0, .int a1, .null, .null, .null]) (st' := []) (mem' := mem) hS hC rfl (fun h => ?_) (fun h => ?_)
  · replace k := k.1 (zb1 h)
    refine ex_many (pc' := 15) (ls' := [.ref 0, .int a1, .null, .null, .null]) (st' := [.int a1, .ref 23]) (mem' := mem) hS hC 3 rfl ?_
    have hg_a1 := k.1
    refine ex_aalS hS hC rfl hg_a1 ?_
    replace k := k.2
    refine ex_many (pc' := 18) (ls' := [.ref 0, .int a1, .ref (24 + 2 * a1.toNatClampNeg), .null, .null]) (st' := [.ref (24 + 2 * a1.toNatClampNeg)]) (mem' := mem) hS hC 2 rfl ?_
    refine ex_call (y' := m_X6_isLost) (rest := []) (ent := [.ref (24 + 2 * a1.toNatClampNeg)]) hS hC rfl rfl rfl (pm_calS rfl rfl rfl (pm_shl (pm_shN hg_a1))) rfl rfl ?_
    refine bk_X6_isLost_0 (pm_shN hg_a1) ?_
    show pm_Ex ro m_X9_read 21 [.ref 0, .int a1, .ref (24 + 2 * a1.toNatClampNeg), .null, .null] [.int (zb (¬ (¬ (mem (24 + 2 * a1.toNatClampNeg) 1) = (-1))))] mem Q
    refine ex_br (P := (zb (¬ (¬ (mem (24 + 2 * a1.toNatClampNeg) 1) = (-1)))) = 0) (a := 30) (b := 24) (ls' := [.ref 0, .int a1, .ref (24 + 2 * a1.toNatClampNeg), .null, .null]) (st' := []) (mem' := mem) hS hC rfl (fun h => ?_) (fun h => ?_)
    · replace k := k.2 (zb0 h)
      refine ex_many (pc' := 31) (ls' := [.ref 0, .int a1, .ref (24 + 2 * a1.toNatClampNeg), .null, .null]) (st' := [.ref (24 + 2 * a1.toNatClampNeg)]) (mem' := mem) hS hC 1 rfl ?_
      refine ex_call (y' := m_X6_size) (rest := []) (ent := [.ref (24 + 2 * a1.toNatClampNeg)]) hS hC rfl rfl rfl (pm_calS rfl rfl rfl (pm_shl (pm_shN hg_a1))) rfl rfl ?_
      refine bk_X6_size_0 (pm_shN hg_a1) ?_
      show pm_Ex ro m_X9_read 34 [.ref 0, .int a1, .ref (24 + 2 * a1.toNatClampNeg), .null, .null] [.int (mem (24 + 2 * a1.toNatClampNeg) 2)] mem Q
      refine ex_many (pc' := 36) (ls' := [.ref 0, .int a1, .ref (24 + 2 * a1.toNatClampNeg), .null, .null]) (st' := [.int 8, .int (mem (24 + 2 * a1.toNatClampNeg) 2)]) (mem' := mem) hS hC 1 rfl ?_
      refine ex_spc (pc' := 39) (ls' := [.ref 0, .int a1, .ref (24 + 2 * a1.toNatClampNeg), .null, .null]) (st' := [.int (if 8 < (mem (24 + 2 * a1.toNatClampNeg) 2) then 8 else (mem (24 + 2 * a1.toNatClampNeg) 2))]) (mem' := mem) hS hC rfl rfl rfl rfl rfl ?_
      refine ex_many (pc' := 43) (ls' := [.ref 0, .int a1, .ref (24 + 2 * a1.toNatClampNeg), .int (if 8 < (mem (24 + 2 * a1.toNatClampNeg) 2) then 8 else (mem (24 + 2 * a1.toNatClampNeg) 2)), .int 0]) (st' := []) (mem' := mem) hS hC 3 rfl ?_
      exact k
    · replace k := k.1 (zb1 h)
      refine ex_many (pc' := 26) (ls' := [.ref 0, .int a1, .ref (24 + 2 * a1.toNatClampNeg), .null, .null]) (st' := [.int 1, .ref 0]) (mem' := mem) hS hC 2 rfl ?_
      refine ex_call (y' := m_X9_finding) (rest := []) (ent := [.ref 0, .int 1]) hS hC rfl rfl rfl rfl rfl rfl ?_
      refine bk_X9_finding_0 ?_
      show pm_Ex ro m_X9_read 29 [.ref 0, .int a1, .ref (24 + 2 * a1.toNatClampNeg), .null, .null] [.int ((-10) - (1 : Int32))] (pm_up mem 0 10 (1 : Int32)) Q
      exact ex_ret (v := (some (.int ((-10) - (1 : Int32))))) hS hC rfl rfl rfl k
  · replace k := k.2 (zb0n h)
    refine ex_many (pc' := 9) (ls' := [.ref 0, .int a1, .null, .null, .null]) (st' := [.int (-2)]) (mem' := mem) hS hC 1 rfl ?_
    exact ex_ret (v := (some (.int (-2)))) hS hC rfl rfl rfl k

set_option maxRecDepth 20000 in
theorem bk_X9_read_43 {ro : pm_RO} {Q : Option Value → pm_M → Prop} {mem : pm_M} {x1 x3 x4 : Int32} {t2 : Nat} (ht2 : pm_isSh t2) (k : (x3 ≤ x4 → Q (some (.int x4)) mem) ∧ (¬ (x3 ≤ x4) → (pm_inb x4 60 = true) ∧ ((¬ ((mem (t2 + 1) x4.toNatClampNeg) < (0 : Int32)) ∧ (¬ ((3 : Int32) < (mem (t2 + 1) x4.toNatClampNeg))) → (pm_inb x4 60 = true) ∧ ((pm_inb x4 8 = true) ∧ (pm_Ex ro m_X9_read 43 [.ref 0, .int x1, .ref t2, .int x3, .int (x4 + 1)] [] (pm_up mem 12 x4.toNatClampNeg (mem (t2 + 1) x4.toNatClampNeg)) Q))) ∧ (¬ (¬ ((mem (t2 + 1) x4.toNatClampNeg) < (0 : Int32)) ∧ (¬ ((3 : Int32) < (mem (t2 + 1) x4.toNatClampNeg)))) → Q (some (.int x4)) mem)))) : pm_Ex ro m_X9_read 43 [.ref 0, .int x1, .ref t2, .int x3, .int x4] [] mem Q := by
  have hS : pm_sig[m_X9_read]? = some _ := rfl
  have hC : pm_cod[m_X9_read]? = some _ := rfl
  refine ex_many (pc' := 46) (ls' := [.ref 0, .int x1, .ref t2, .int x3, .int x4]) (st' := [.int x3, .int x4]) (mem' := mem) hS hC 2 rfl ?_
  refine ex_br (P := x3 ≤ x4) (a := 82) (b := 49) (ls' := [.ref 0, .int x1, .ref t2, .int x3, .int x4]) (st' := []) (mem' := mem) hS hC rfl (fun h => ?_) (fun h => ?_)
  · replace k := k.1 (h)
    refine ex_many (pc' := 84) (ls' := [.ref 0, .int x1, .ref t2, .int x3, .int x4]) (st' := [.int x4]) (mem' := mem) hS hC 1 rfl ?_
    exact ex_ret (v := (some (.int x4))) hS hC rfl rfl rfl k
  · replace k := k.2 (h)
    refine ex_many (pc' := 52) (ls' := [.ref 0, .int x1, .ref t2, .int x3, .int x4]) (st' := [.int x4, .ref t2]) (mem' := mem) hS hC 2 rfl ?_
    refine ex_call (y' := m_X6_itemAt) (rest := []) (ent := [.ref t2, .int x4]) hS hC rfl rfl rfl (pm_calS rfl rfl rfl (pm_shl ht2)) rfl rfl ?_
    refine bk_X6_itemAt_0 ht2 ⟨k.1, ?_⟩
    replace k := k.2
    show pm_Ex ro m_X9_read 55 [.ref 0, .int x1, .ref t2, .int x3, .int x4] [.int (mem (t2 + 1) x4.toNatClampNeg)] mem Q
    refine ex_call (y' := m_X9_isPartner) (rest := []) (ent := [.int (mem (t2 + 1) x4.toNatClampNeg)]) hS hC rfl rfl rfl rfl rfl rfl ?_
    refine bk_X9_isPartner_0 ?_
    show pm_Ex ro m_X9_read 58 [.ref 0, .int x1, .ref t2, .int x3, .int x4] [.int (zb (¬ ((mem (t2 + 1) x4.toNatClampNeg) < (0 : Int32)) ∧ (¬ ((3 : Int32) < (mem (t2 + 1) x4.toNatClampNeg)))))] mem Q
    refine ex_br (P := (zb (¬ ((mem (t2 + 1) x4.toNatClampNeg) < (0 : Int32)) ∧ (¬ ((3 : Int32) < (mem (t2 + 1) x4.toNatClampNeg))))) = 0) (a := 82) (b := 61) (ls' := [.ref 0, .int x1, .ref t2, .int x3, .int x4]) (st' := []) (mem' := mem) hS hC rfl (fun h => ?_) (fun h => ?_)
    · replace k := k.2 (zb0 h)
      refine ex_many (pc' := 84) (ls' := [.ref 0, .int x1, .ref t2, .int x3, .int x4]) (st' := [.int x4]) (mem' := mem) hS hC 1 rfl ?_
      exact ex_ret (v := (some (.int x4))) hS hC rfl rfl rfl k
    · replace k := k.1 (zb1 h)
      refine ex_many (pc' := 70) (ls' := [.ref 0, .int x1, .ref t2, .int x3, .int x4]) (st' := [.int x4, .ref t2, .int x4, .ref 11]) (mem' := mem) hS hC 5 rfl ?_
      refine ex_call (y' := m_X6_itemAt) (rest := [.int x4, .ref 11]) (ent := [.ref t2, .int x4]) hS hC rfl rfl rfl (pm_calS rfl rfl rfl (pm_shl ht2)) rfl rfl ?_
      refine bk_X6_itemAt_0 ht2 ⟨k.1, ?_⟩
      replace k := k.2
      show pm_Ex ro m_X9_read 73 [.ref 0, .int x1, .ref t2, .int x3, .int x4] [.int (mem (t2 + 1) x4.toNatClampNeg), .int x4, .ref 11] mem Q
      refine ex_call (y' := m_X4_give) (rest := []) (ent := [.ref 11, .int x4, .int (mem (t2 + 1) x4.toNatClampNeg)]) hS hC rfl rfl rfl rfl rfl rfl ?_
      refine bk_X4_give_0 ⟨k.1, ?_⟩
      replace k := k.2
      show pm_Ex ro m_X9_read 76 [.ref 0, .int x1, .ref t2, .int x3, .int x4] [] (pm_up mem 12 x4.toNatClampNeg (mem (t2 + 1) x4.toNatClampNeg)) Q
      refine ex_many (pc' := 43) (ls' := [.ref 0, .int x1, .ref t2, .int x3, .int (x4 + 1)]) (st' := []) (mem' := pm_up mem 12 x4.toNatClampNeg (mem (t2 + 1) x4.toNatClampNeg)) hS hC 2 rfl ?_
      exact k

set_option maxRecDepth 20000 in
theorem bk_X9_paid_0 {ro : pm_RO} {Q : Option Value → pm_M → Prop} {mem : pm_M} {a1 : Int32} (k : (¬ (a1 < (0 : Int32)) ∧ (¬ ((9999 : Int32) < a1)) → pm_Ex ro m_X2_paidFor 0 [.ref 1, .int a1, .null, .null, .null, .null, .null, .null] [] mem (fun v m => pm_Ex ro m_X9_paid 15 [.ref 0, .int a1] (v.toList ++ []) m Q)) ∧ (¬ (¬ (a1 < (0 : Int32)) ∧ (¬ ((9999 : Int32) < a1))) → Q (some (.int (-2))) mem)) : pm_Ex ro m_X9_paid 0 [.ref 0, .int a1] [] mem Q := by
  have hS : pm_sig[m_X9_paid]? = some _ := rfl
  have hC : pm_cod[m_X9_paid]? = some _ := rfl
  refine ex_many (pc' := 1) (ls' := [.ref 0, .int a1]) (st' := [.int a1]) (mem' := mem) hS hC 1 rfl ?_
  refine ex_call (y' := m_X9_isNumber) (rest := []) (ent := [.int a1]) hS hC rfl rfl rfl rfl rfl rfl ?_
  refine bk_X9_isNumber_0 ?_
  show pm_Ex ro m_X9_paid 4 [.ref 0, .int a1] [.int (zb (¬ (a1 < (0 : Int32)) ∧ (¬ ((9999 : Int32) < a1))))] mem Q
  refine ex_br (P := (zb (¬ (a1 < (0 : Int32)) ∧ (¬ ((9999 : Int32) < a1)))) = 0) (a := 18) (b := 7) (ls' := [.ref 0, .int a1]) (st' := []) (mem' := mem) hS hC rfl (fun h => ?_) (fun h => ?_)
  · replace k := k.2 (zb0 h)
    refine ex_many (pc' := 20) (ls' := [.ref 0, .int a1]) (st' := [.int (-2)]) (mem' := mem) hS hC 1 rfl ?_
    exact ex_ret (v := (some (.int (-2)))) hS hC rfl rfl rfl k
  · replace k := k.1 (zb1 h)
    refine ex_many (pc' := 12) (ls' := [.ref 0, .int a1]) (st' := [.int a1, .ref 1]) (mem' := mem) hS hC 3 rfl ?_
    refine ex_call (y' := m_X2_paidFor) (rest := []) (ent := [.ref 1, .int a1, .null, .null, .null, .null, .null, .null]) hS hC rfl rfl rfl rfl rfl rfl ?_
    exact k

set_option maxRecDepth 20000 in
theorem bk_X9_paid_15 {ro : pm_RO} {Q : Option Value → pm_M → Prop} {mem : pm_M} {x1 s0 : Int32} (k : Q (some (.int s0)) mem) : pm_Ex ro m_X9_paid 15 [.ref 0, .int x1] [.int s0] mem Q := by
  have hS : pm_sig[m_X9_paid]? = some _ := rfl
  have hC : pm_cod[m_X9_paid]? = some _ := rfl
  refine ex_many (pc' := 20) (ls' := [.ref 0, .int x1]) (st' := [.int s0]) (mem' := mem) hS hC 1 rfl ?_
  exact ex_ret (v := (some (.int s0))) hS hC rfl rfl rfl k

set_option maxRecDepth 20000 in
theorem bk_X9_bill_0 {ro : pm_RO} {Q : Option Value → pm_M → Prop} {mem : pm_M} {a1 a2 : Int32} (k : (¬ (a1 < (1 : Int32)) ∧ (¬ ((((1 : Int32) <<< ((mem 3 3) &&& 31)) - 1) < a1)) → pm_Ex ro m_X9_bill 19 [.ref 0, .int a1, .int a2] [.int a2] mem Q) ∧ (¬ (¬ (a1 < (1 : Int32)) ∧ (¬ ((((1 : Int32) <<< ((mem 3 3) &&& 31)) - 1) < a1))) → Q (some (.int (-2))) mem)) : pm_Ex ro m_X9_bill 0 [.ref 0, .int a1, .int a2] [] mem Q := by
  have hS : pm_sig[m_X9_bill]? = some _ := rfl
  have hC : pm_cod[m_X9_bill]? = some _ := rfl
  refine ex_many (pc' := 6) (ls' := [.ref 0, .int a1, .int a2]) (st' := [.ref 3, .int 1, .int a1]) (mem' := mem) hS hC 4 rfl ?_
  refine ex_call (y' := m_X1_allBits) (rest := [.int 1, .int a1]) (ent := [.ref 3]) hS hC rfl rfl rfl rfl rfl rfl ?_
  refine bk_X1_allBits_0 ?_
  show pm_Ex ro m_X9_bill 9 [.ref 0, .int a1, .int a2] [.int (((1 : Int32) <<< ((mem 3 3) &&& 31)) - 1), .int 1, .int a1] mem Q
  refine ex_call (y' := m_X9_within) (rest := []) (ent := [.int a1, .int 1, .int (((1 : Int32) <<< ((mem 3 3) &&& 31)) - 1)]) hS hC rfl rfl rfl rfl rfl rfl ?_
  refine bk_X9_within_0 ?_
  show pm_Ex ro m_X9_bill 12 [.ref 0, .int a1, .int a2] [.int (zb (¬ (a1 < (1 : Int32)) ∧ (¬ ((((1 : Int32) <<< ((mem 3 3) &&& 31)) - 1) < a1))))] mem Q
  refine ex_br (P := ¬ (zb (¬ (a1 < (1 : Int32)) ∧ (¬ ((((1 : Int32) <<< ((mem 3 3) &&& 31)) - 1) < a1)))) = 0) (a := 18) (b := 15) (ls' := [.ref 0, .int a1, .int a2]) (st' := []) (mem' := mem) hS hC rfl (fun h => ?_) (fun h => ?_)
  · replace k := k.1 (zb1 h)
    refine ex_many (pc' := 19) (ls' := [.ref 0, .int a1, .int a2]) (st' := [.int a2]) (mem' := mem) hS hC 1 rfl ?_
    exact k
  · replace k := k.2 (zb0n h)
    refine ex_many (pc' := 17) (ls' := [.ref 0, .int a1, .int a2]) (st' := [.int (-2)]) (mem' := mem) hS hC 1 rfl ?_
    exact ex_ret (v := (some (.int (-2)))) hS hC rfl rfl rfl k

set_option maxRecDepth 20000 in
theorem bk_X9_bill_19_c0 {ro : pm_RO} {Q : Option Value → pm_M → Prop} {mem : pm_M} {x1 x2 : Int32} (k : pm_Ex ro m_X7_sumOf 0 [.ref 6, .int x1] [] mem (fun v m => pm_Ex ro m_X9_bill 52 [.ref 0, .int x1, .int x2] (v.toList ++ []) m Q)) : pm_Ex ro m_X9_bill 19 [.ref 0, .int x1, .int x2] [.int 0] mem Q := by
  have hS : pm_sig[m_X9_bill]? = some _ := rfl
  have hC : pm_cod[m_X9_bill]? = some _ := rfl
  refine ex_one (pc' := 44) (ls' := [.ref 0, .int x1, .int x2]) (st' := []) (mem' := mem) hS hC rfl ?_
  refine ex_many (pc' := 49) (ls' := [.ref 0, .int x1, .int x2]) (st' := [.int x1, .ref 6]) (mem' := mem) hS hC 3 rfl ?_
  refine ex_call (y' := m_X7_sumOf) (rest := []) (ent := [.ref 6, .int x1]) hS hC rfl rfl rfl rfl rfl rfl ?_
  exact k

set_option maxRecDepth 20000 in
theorem bk_X9_bill_19_c1 {ro : pm_RO} {Q : Option Value → pm_M → Prop} {mem : pm_M} {x1 x2 : Int32} (k : pm_Ex ro m_X7_paidOf 0 [.ref 6, .int x1] [] mem (fun v m => pm_Ex ro m_X9_bill 61 [.ref 0, .int x1, .int x2] (v.toList ++ []) m Q)) : pm_Ex ro m_X9_bill 19 [.ref 0, .int x1, .int x2] [.int 1] mem Q := by
  have hS : pm_sig[m_X9_bill]? = some _ := rfl
  have hC : pm_cod[m_X9_bill]? = some _ := rfl
  refine ex_one (pc' := 53) (ls' := [.ref 0, .int x1, .int x2]) (st' := []) (mem' := mem) hS hC rfl ?_
  refine ex_many (pc' := 58) (ls' := [.ref 0, .int x1, .int x2]) (st' := [.int x1, .ref 6]) (mem' := mem) hS hC 3 rfl ?_
  refine ex_call (y' := m_X7_paidOf) (rest := []) (ent := [.ref 6, .int x1]) hS hC rfl rfl rfl rfl rfl rfl ?_
  exact k

set_option maxRecDepth 20000 in
theorem bk_X9_bill_19_d {ro : pm_RO} {Q : Option Value → pm_M → Prop} {mem : pm_M} {x1 x2 s0 : Int32} (h0 : ¬ s0 = 0) (h1 : ¬ s0 = 1) (k : Q (some (.int (-2))) mem) : pm_Ex ro m_X9_bill 19 [.ref 0, .int x1, .int x2] [.int s0] mem Q := by
  have hS : pm_sig[m_X9_bill]? = some _ := rfl
  have hC : pm_cod[m_X9_bill]? = some _ := rfl
  refine ex_lswd hS hC rfl rfl (a := 62) rfl ((lv_osw h0 (by decide)).trans ((lv_osw h1 (by decide)).trans rfl)) ?_
  refine ex_many (pc' := 64) (ls' := [.ref 0, .int x1, .int x2]) (st' := [.int (-2)]) (mem' := mem) hS hC 1 rfl ?_
  exact ex_ret (v := (some (.int (-2)))) hS hC rfl rfl rfl k

set_option maxRecDepth 20000 in
theorem bk_X9_bill_52 {ro : pm_RO} {Q : Option Value → pm_M → Prop} {mem : pm_M} {x1 x2 s0 : Int32} (k : Q (some (.int s0)) mem) : pm_Ex ro m_X9_bill 52 [.ref 0, .int x1, .int x2] [.int s0] mem Q := by
  have hS : pm_sig[m_X9_bill]? = some _ := rfl
  have hC : pm_cod[m_X9_bill]? = some _ := rfl
  exact ex_ret (v := (some (.int s0))) hS hC rfl rfl rfl k

set_option maxRecDepth 20000 in
theorem bk_X9_bill_61 {ro : pm_RO} {Q : Option Value → pm_M → Prop} {mem : pm_M} {x1 x2 s0 : Int32} (k : Q (some (.int s0)) mem) : pm_Ex ro m_X9_bill 61 [.ref 0, .int x1, .int x2] [.int s0] mem Q := by
  have hS : pm_sig[m_X9_bill]? = some _ := rfl
  have hC : pm_cod[m_X9_bill]? = some _ := rfl
  exact ex_ret (v := (some (.int s0))) hS hC rfl rfl rfl k

set_option maxRecDepth 20000 in
theorem bk_X9_bought_0 {ro : pm_RO} {Q : Option Value → pm_M → Prop} {mem : pm_M} {a1 : Int32} (k : pm_Ex ro m_X9_bought 1 [.ref 0, .int a1] [.int a1] mem Q) : pm_Ex ro m_X9_bought 0 [.ref 0, .int a1] [] mem Q := by
  have hS : pm_sig[m_X9_bought]? = some _ := rfl
  have hC : pm_cod[m_X9_bought]? = some _ := rfl
  refine ex_many (pc' := 1) (ls' := [.ref 0, .int a1]) (st' := [.int a1]) (mem' := mem) hS hC 1 rfl ?_
  exact k

set_option maxRecDepth 20000 in
theorem bk_X9_bought_1_c0 {ro : pm_RO} {Q : Option Value → pm_M → Prop} {mem : pm_M} {x1 : Int32} (k : pm_Ex ro m_X7_leastPaid 0 [.ref 6] [] mem (fun v m => pm_Ex ro m_X9_bought 39 [.ref 0, .int x1] (v.toList ++ []) m Q)) : pm_Ex ro m_X9_bought 1 [.ref 0, .int x1] [.int 0] mem Q := by
  have hS : pm_sig[m_X9_bought]? = some _ := rfl
  have hC : pm_cod[m_X9_bought]? = some _ := rfl
  refine ex_one (pc' := 32) (ls' := [.ref 0, .int x1]) (st' := []) (mem' := mem) hS hC rfl ?_
  refine ex_many (pc' := 36) (ls' := [.ref 0, .int x1]) (st' := [.ref 6]) (mem' := mem) hS hC 2 rfl ?_
  refine ex_call (y' := m_X7_leastPaid) (rest := []) (ent := [.ref 6]) hS hC rfl rfl rfl rfl rfl rfl ?_
  exact k

set_option maxRecDepth 20000 in
theorem bk_X9_bought_1_c1 {ro : pm_RO} {Q : Option Value → pm_M → Prop} {mem : pm_M} {x1 : Int32} (k : pm_Ex ro m_X7_leastBills 0 [.ref 6] [] mem (fun v m => pm_Ex ro m_X9_bought 47 [.ref 0, .int x1] (v.toList ++ []) m Q)) : pm_Ex ro m_X9_bought 1 [.ref 0, .int x1] [.int 1] mem Q := by
  have hS : pm_sig[m_X9_bought]? = some _ := rfl
  have hC : pm_cod[m_X9_bought]? = some _ := rfl
  refine ex_one (pc' := 40) (ls' := [.ref 0, .int x1]) (st' := []) (mem' := mem) hS hC rfl ?_
  refine ex_many (pc' := 44) (ls' := [.ref 0, .int x1]) (st' := [.ref 6]) (mem' := mem) hS hC 2 rfl ?_
  refine ex_call (y' := m_X7_leastBills) (rest := []) (ent := [.ref 6]) hS hC rfl rfl rfl rfl rfl rfl ?_
  exact k

set_option maxRecDepth 20000 in
theorem bk_X9_bought_1_c2 {ro : pm_RO} {Q : Option Value → pm_M → Prop} {mem : pm_M} {x1 : Int32} (k : pm_Ex ro m_X7_leastBits 0 [.ref 6] [] mem (fun v m => pm_Ex ro m_X9_bought 55 [.ref 0, .int x1] (v.toList ++ []) m Q)) : pm_Ex ro m_X9_bought 1 [.ref 0, .int x1] [.int 2] mem Q := by
  have hS : pm_sig[m_X9_bought]? = some _ := rfl
  have hC : pm_cod[m_X9_bought]? = some _ := rfl
  refine ex_one (pc' := 48) (ls' := [.ref 0, .int x1]) (st' := []) (mem' := mem) hS hC rfl ?_
  refine ex_many (pc' := 52) (ls' := [.ref 0, .int x1]) (st' := [.ref 6]) (mem' := mem) hS hC 2 rfl ?_
  refine ex_call (y' := m_X7_leastBits) (rest := []) (ent := [.ref 6]) hS hC rfl rfl rfl rfl rfl rfl ?_
  exact k

set_option maxRecDepth 20000 in
theorem bk_X9_bought_1_c3 {ro : pm_RO} {Q : Option Value → pm_M → Prop} {mem : pm_M} {x1 : Int32} (k : pm_Ex ro m_X7_mostPaid 0 [.ref 6] [] mem (fun v m => pm_Ex ro m_X9_bought 63 [.ref 0, .int x1] (v.toList ++ []) m Q)) : pm_Ex ro m_X9_bought 1 [.ref 0, .int x1] [.int 3] mem Q := by
  have hS : pm_sig[m_X9_bought]? = some _ := rfl
  have hC : pm_cod[m_X9_bought]? = some _ := rfl
  refine ex_one (pc' := 56) (ls' := [.ref 0, .int x1]) (st' := []) (mem' := mem) hS hC rfl ?_
  refine ex_many (pc' := 60) (ls' := [.ref 0, .int x1]) (st' := [.ref 6]) (mem' := mem) hS hC 2 rfl ?_
  refine ex_call (y' := m_X7_mostPaid) (rest := []) (ent := [.ref 6]) hS hC rfl rfl rfl rfl rfl rfl ?_
  exact k

set_option maxRecDepth 20000 in
theorem bk_X9_bought_1_d {ro : pm_RO} {Q : Option Value → pm_M → Prop} {mem : pm_M} {x1 s0 : Int32} (h0 : ¬ s0 = 0) (h1 : ¬ s0 = 1) (h2 : ¬ s0 = 2) (h3 : ¬ s0 = 3) (k : Q (some (.int (-2))) mem) : pm_Ex ro m_X9_bought 1 [.ref 0, .int x1] [.int s0] mem Q := by
  have hS : pm_sig[m_X9_bought]? = some _ := rfl
  have hC : pm_cod[m_X9_bought]? = some _ := rfl
  refine ex_tswd hS hC rfl (a := 64) rfl (pm_out4 h0 h1 h2 h3) ?_
  refine ex_many (pc' := 66) (ls' := [.ref 0, .int x1]) (st' := [.int (-2)]) (mem' := mem) hS hC 1 rfl ?_
  exact ex_ret (v := (some (.int (-2)))) hS hC rfl rfl rfl k

set_option maxRecDepth 20000 in
theorem bk_X9_bought_39 {ro : pm_RO} {Q : Option Value → pm_M → Prop} {mem : pm_M} {x1 s0 : Int32} (k : Q (some (.int s0)) mem) : pm_Ex ro m_X9_bought 39 [.ref 0, .int x1] [.int s0] mem Q := by
  have hS : pm_sig[m_X9_bought]? = some _ := rfl
  have hC : pm_cod[m_X9_bought]? = some _ := rfl
  exact ex_ret (v := (some (.int s0))) hS hC rfl rfl rfl k

set_option maxRecDepth 20000 in
theorem bk_X9_bought_47 {ro : pm_RO} {Q : Option Value → pm_M → Prop} {mem : pm_M} {x1 s0 : Int32} (k : Q (some (.int s0)) mem) : pm_Ex ro m_X9_bought 47 [.ref 0, .int x1] [.int s0] mem Q := by
  have hS : pm_sig[m_X9_bought]? = some _ := rfl
  have hC : pm_cod[m_X9_bought]? = some _ := rfl
  exact ex_ret (v := (some (.int s0))) hS hC rfl rfl rfl k

set_option maxRecDepth 20000 in
theorem bk_X9_bought_55 {ro : pm_RO} {Q : Option Value → pm_M → Prop} {mem : pm_M} {x1 s0 : Int32} (k : Q (some (.int s0)) mem) : pm_Ex ro m_X9_bought 55 [.ref 0, .int x1] [.int s0] mem Q := by
  have hS : pm_sig[m_X9_bought]? = some _ := rfl
  have hC : pm_cod[m_X9_bought]? = some _ := rfl
  exact ex_ret (v := (some (.int s0))) hS hC rfl rfl rfl k

set_option maxRecDepth 20000 in
theorem bk_X9_bought_63 {ro : pm_RO} {Q : Option Value → pm_M → Prop} {mem : pm_M} {x1 s0 : Int32} (k : Q (some (.int s0)) mem) : pm_Ex ro m_X9_bought 63 [.ref 0, .int x1] [.int s0] mem Q := by
  have hS : pm_sig[m_X9_bought]? = some _ := rfl
  have hC : pm_cod[m_X9_bought]? = some _ := rfl
  exact ex_ret (v := (some (.int s0))) hS hC rfl rfl rfl k

set_option maxRecDepth 20000 in
theorem bk_X9_added_0 {ro : pm_RO} {Q : Option Value → pm_M → Prop} {mem : pm_M} {a1 : Int32} (k : (¬ (a1 < (0 : Int32)) ∧ (¬ ((9999 : Int32) < a1)) → pm_Ex ro m_X2_paidFor 0 [.ref 1, .int a1, .null, .null, .null, .null, .null, .null] [] mem (fun v m => pm_Ex ro m_X9_added 20 [.ref 0, .int a1, .int 0, .null, .null, .null] (v.toList ++ []) m Q)) ∧ (¬ (¬ (a1 < (0 : Int32)) ∧ (¬ ((9999 : Int32) < a1))) → Q (some (.int (-2))) mem)) : pm_Ex ro m_X9_added 0 [.ref 0, .int a1, .null, .null, .null, .null] [] mem Q := by
  have hS : pm_sig[m_X9_added]? = some _ := rfl
  have hC : pm_cod[m_X9_added]? = some _ := rfl
  refine ex_many (pc' := 1) (ls' := [.ref 0, .int a1, .null, .null, .null, .null]) (st' := [.int a1]) (mem' := mem) hS hC 1 rfl ?_
  refine ex_call (y' := m_X9_isNumber) (rest := []) (ent := [.int a1]) hS hC rfl rfl rfl rfl rfl rfl ?_
  refine bk_X9_isNumber_0 ?_
  show pm_Ex ro m_X9_added 4 [.ref 0, .int a1, .null, .null, .null, .null] [.int (zb (¬ (a1 < (0 : Int32)) ∧ (¬ ((9999 : Int32) < a1))))] mem Q
  refine ex_br (P := ¬ (zb (¬ (a1 < (0 : Int32)) ∧ (¬ ((9999 : Int32) < a1)))) = 0) (a := 10) (b := 7) (ls' := [.ref 0, .int a1, .null, .null, .null, .null]) (st' := []) (mem' := mem) hS hC rfl (fun h => ?_) (fun h => ?_)
  · replace k := k.1 (zb1 h)
    refine ex_many (pc' := 17) (ls' := [.ref 0, .int a1, .int 0, .null, .null, .null]) (st' := [.int a1, .ref 1]) (mem' := mem) hS hC 5 rfl ?_
    refine ex_call (y' := m_X2_paidFor) (rest := []) (ent := [.ref 1, .int a1, .null, .null, .null, .null, .null, .null]) hS hC rfl rfl rfl rfl rfl rfl ?_
    exact k
  · replace k := k.2 (zb0n h)
    refine ex_many (pc' := 9) (ls' := [.ref 0, .int a1, .null, .null, .null, .null]) (st' := [.int (-2)]) (mem' := mem) hS hC 1 rfl ?_
    exact ex_ret (v := (some (.int (-2)))) hS hC rfl rfl rfl k

set_option maxRecDepth 20000 in
theorem bk_X9_added_24 {ro : pm_RO} {Q : Option Value → pm_M → Prop} {mem : pm_M} {x1 x2 x3 x4 : Int32} {d5 : Value} (k : (99 < x4 → Q (some (.int x2)) mem) ∧ (¬ (99 < x4) → pm_Ex ro m_X2_paidFor 0 [.ref 1, .int (x1 + x4), .null, .null, .null, .null, .null, .null] [] mem (fun v m => pm_Ex ro m_X9_added 42 [.ref 0, .int x1, .int x2, .int x3, .int x4, d5] (v.toList ++ []) m Q))) : pm_Ex ro m_X9_added 24 [.ref 0, .int x1, .int x2, .int x3, .int x4, d5] [] mem Q := by
  have hS : pm_sig[m_X9_added]? = some _ := rfl
  have hC : pm_cod[m_X9_added]? = some _ := rfl
  refine ex_many (pc' := 28) (ls' := [.ref 0, .int x1, .int x2, .int x3, .int x4, d5]) (st' := [.int 99, .int x4]) (mem' := mem) hS hC 2 rfl ?_
  refine ex_br (P := 99 < x4) (a := 62) (b := 31) (ls' := [.ref 0, .int x1, .int x2, .int x3, .int x4, d5]) (st' := []) (mem' := mem) hS hC rfl (fun h => ?_) (fun h => ?_)
  · replace k := k.1 (h)
    refine ex_many (pc' := 63) (ls' := [.ref 0, .int x1, .int x2, .int x3, .int x4, d5]) (st' := [.int x2]) (mem' := mem) hS hC 1 rfl ?_
    exact ex_ret (v := (some (.int x2))) hS hC rfl rfl rfl k
  · replace k := k.2 (h)
    refine ex_many (pc' := 39) (ls' := [.ref 0, .int x1, .int x2, .int x3, .int x4, d5]) (st' := [.int (x1 + x4), .ref 1]) (mem' := mem) hS hC 5 rfl ?_
    refine ex_call (y' := m_X2_paidFor) (rest := []) (ent := [.ref 1, .int (x1 + x4), .null, .null, .null, .null, .null, .null]) hS hC rfl rfl rfl rfl rfl rfl ?_
    exact k

set_option maxRecDepth 20000 in
theorem bk_X9_added_20 {ro : pm_RO} {Q : Option Value → pm_M → Prop} {mem : pm_M} {x1 x2 s0 : Int32} (k : pm_Ex ro m_X9_added 24 [.ref 0, .int x1, .int x2, .int s0, .int 1, .null] [] mem Q) : pm_Ex ro m_X9_added 20 [.ref 0, .int x1, .int x2, .null, .null, .null] [.int s0] mem Q := by
  have hS : pm_sig[m_X9_added]? = some _ := rfl
  have hC : pm_cod[m_X9_added]? = some _ := rfl
  refine ex_many (pc' := 24) (ls' := [.ref 0, .int x1, .int x2, .int s0, .int 1, .null]) (st' := []) (mem' := mem) hS hC 3 rfl ?_
  exact k

set_option maxRecDepth 20000 in
theorem bk_X9_added_42 {ro : pm_RO} {Q : Option Value → pm_M → Prop} {mem : pm_M} {x1 x2 x3 x4 s0 : Int32} {d5 : Value} (k : pm_Ex ro m_X9_added 24 [.ref 0, .int x1, .int (if x3 ≤ s0 then x2 else x4 : Int32), .int (if x3 ≤ s0 then x3 else s0 : Int32), .int (x4 + 1), .int s0] [] mem Q) : pm_Ex ro m_X9_added 42 [.ref 0, .int x1, .int x2, .int x3, .int x4, d5] [.int s0] mem Q := by
  have hS : pm_sig[m_X9_added]? = some _ := rfl
  have hC : pm_cod[m_X9_added]? = some _ := rfl
  refine ex_many (pc' := 47) (ls' := [.ref 0, .int x1, .int x2, .int x3, .int x4, .int s0]) (st' := [.int x3, .int s0]) (mem' := mem) hS hC 3 rfl ?_
  have kp29 : pm_Ex ro m_X9_added 56 [.ref 0, .int x1, .int (if x3 ≤ s0 then x2 else x4 : Int32), .int (if x3 ≤ s0 then x3 else s0 : Int32), .int x4, .int s0] [] mem Q := by
    refine ex_many (pc' := 24) (ls' := [.ref 0, .int x1, .int (if x3 ≤ s0 then x2 else x4 : Int32), .int (if x3 ≤ s0 then x3 else s0 : Int32), .int (x4 + 1), .int s0]) (st' := []) (mem' := mem) hS hC 2 rfl ?_
    exact k
  refine ex_br (P := x3 ≤ s0) (a := 56) (b := 50) (ls' := [.ref 0, .int x1, .int x2, .int x3, .int x4, .int s0]) (st' := []) (mem' := mem) hS hC rfl (fun h => ?_) (fun h => ?_)
  · have kp29a : pm_Ex ro m_X9_added 56 [.ref 0, .int x1, .int x2, .int x3, .int x4, .int s0] [] mem Q := pm_phi2 (f := fun z0 z1 => pm_Ex ro m_X9_added 56 [.ref 0, .int x1, .int z0, .int z1, .int x4, .int s0] [] mem Q) (if_pos (h)) (if_pos (h)) kp29
    exact kp29a
  · have kp29b : pm_Ex ro m_X9_added 56 [.ref 0, .int x1, .int x4, .int s0, .int x4, .int s0] [] mem Q := pm_phi2 (f := fun z0 z1 => pm_Ex ro m_X9_added 56 [.ref 0, .int x1, .int z0, .int z1, .int x4, .int s0] [] mem Q) (if_neg (h)) (if_neg (h)) kp29
    refine ex_many (pc' := 56) (ls' := [.ref 0, .int x1, .int x4, .int s0, .int x4, .int s0]) (st' := []) (mem' := mem) hS hC 4 rfl ?_
    exact kp29b

set_option maxRecDepth 20000 in
theorem bk_X9_proof_0 {ro : pm_RO} {Q : Option Value → pm_M → Prop} {mem : pm_M} {a1 a2 : Int32} (k : (¬ (a1 < (1 : Int32)) ∧ (¬ ((8 : Int32) < a1)) → (¬ (a2 < (0 : Int32)) ∧ (¬ ((1 : Int32) < a2)) → (¬ (mem 3 3) = 0 → pm_Ex ro m_X7_greatestGain 0 [.ref 6, .int a1, .null, .null] [] mem (fun v m => pm_Ex ro m_X9_proof 43 [.ref 0, .int a1, .int a2, .null] (v.toList ++ []) m Q)) ∧ (¬ (¬ (mem 3 3) = 0) → Q (some (.int (-100003))) mem)) ∧ (¬ (¬ (a2 < (0 : Int32)) ∧ (¬ ((1 : Int32) < a2))) → Q (some (.int (-100002))) mem)) ∧ (¬ (¬ (a1 < (1 : Int32)) ∧ (¬ ((8 : Int32) < a1))) → Q (some (.int (-100002))) mem)) : pm_Ex ro m_X9_proof 0 [.ref 0, .int a1, .int a2, .null] [] mem Q := by
  have hS : pm_sig[m_X9_proof]? = some _ := rfl
  have hC : pm_cod[m_X9_proof]? = some _ := rfl
  refine ex_many (pc' := 4) (ls' := [.ref 0, .int a1, .int a2, .null]) (st' := [.int 8, .int 1, .int a1]) (mem' := mem) hS hC 3 rfl ?_
  refine ex_call (y' := m_X9_within) (rest := []) (ent := [.int a1, .int 1, .int 8]) hS hC rfl rfl rfl rfl rfl rfl ?_
  refine bk_X9_within_0 ?_
  show pm_Ex ro m_X9_proof 7 [.ref 0, .int a1, .int a2, .null] [.int (zb (¬ (a1 < (1 : Int32)) ∧ (¬ ((8 : Int32) < a1))))] mem Q
  refine ex_br (P := (zb (¬ (a1 < (1 : Int32)) ∧ (¬ ((8 : Int32) < a1)))) = 0) (a := 19) (b := 10) (ls' := [.ref 0, .int a1, .int a2, .null]) (st' := []) (mem' := mem) hS hC rfl (fun h => ?_) (fun h => ?_)
  · replace k := k.2 (zb0 h)
    refine ex_many (pc' := 21) (ls' := [.ref 0, .int a1, .int a2, .null]) (st' := [.int (-100002)]) (mem' := mem) hS hC 1 rfl ?_
    exact ex_ret (v := (some (.int (-100002)))) hS hC rfl rfl rfl k
  · replace k := k.1 (zb1 h)
    refine ex_many (pc' := 13) (ls' := [.ref 0, .int a1, .int a2, .null]) (st' := [.int 1, .int 0, .int a2]) (mem' := mem) hS hC 3 rfl ?_
    refine ex_call (y' := m_X9_within) (rest := []) (ent := [.int a2, .int 0, .int 1]) hS hC rfl rfl rfl rfl rfl rfl ?_
    refine bk_X9_within_0 ?_
    show pm_Ex ro m_X9_proof 16 [.ref 0, .int a1, .int a2, .null] [.int (zb (¬ (a2 < (0 : Int32)) ∧ (¬ ((1 : Int32) < a2))))] mem Q
    refine ex_br (P := ¬ (zb (¬ (a2 < (0 : Int32)) ∧ (¬ ((1 : Int32) < a2)))) = 0) (a := 22) (b := 19) (ls' := [.ref 0, .int a1, .int a2, .null]) (st' := []) (mem' := mem) hS hC rfl (fun h => ?_) (fun h => ?_)
    · replace k := k.1 (zb1 h)
      refine ex_many (pc' := 26) (ls' := [.ref 0, .int a1, .int a2, .null]) (st' := [.ref 3]) (mem' := mem) hS hC 2 rfl ?_
      refine ex_call (y' := m_X1_size) (rest := []) (ent := [.ref 3]) hS hC rfl rfl rfl rfl rfl rfl ?_
      refine bk_X1_size_0 ?_
      show pm_Ex ro m_X9_proof 29 [.ref 0, .int a1, .int a2, .null] [.int (mem 3 3)] mem Q
      refine ex_br (P := ¬ (mem 3 3) = 0) (a := 35) (b := 32) (ls' := [.ref 0, .int a1, .int a2, .null]) (st' := []) (mem' := mem) hS hC rfl (fun h => ?_) (fun h => ?_)
      · replace k := k.1 (h)
        refine ex_many (pc' := 40) (ls' := [.ref 0, .int a1, .int a2, .null]) (st' := [.int a1, .ref 6]) (mem' := mem) hS hC 3 rfl ?_
        refine ex_call (y' := m_X7_greatestGain) (rest := []) (ent := [.ref 6, .int a1, .null, .null]) hS hC rfl rfl rfl rfl rfl rfl ?_
        exact k
      · replace k := k.2 (h)
        refine ex_many (pc' := 34) (ls' := [.ref 0, .int a1, .int a2, .null]) (st' := [.int (-100003)]) (mem' := mem) hS hC 1 rfl ?_
        exact ex_ret (v := (some (.int (-100003)))) hS hC rfl rfl rfl k
    · replace k := k.2 (zb0n h)
      refine ex_many (pc' := 21) (ls' := [.ref 0, .int a1, .int a2, .null]) (st' := [.int (-100002)]) (mem' := mem) hS hC 1 rfl ?_
      exact ex_ret (v := (some (.int (-100002)))) hS hC rfl rfl rfl k

set_option maxRecDepth 20000 in
theorem bk_X9_proof_43 {ro : pm_RO} {Q : Option Value → pm_M → Prop} {mem : pm_M} {x1 x2 s0 : Int32} (k : (¬ x2 = 0 → Q (some (.int s0)) mem) ∧ (¬ (¬ x2 = 0) → pm_Ex ro m_X7_gainOf 0 [.ref 6, .int s0] [] mem (fun v m => pm_Ex ro m_X9_proof 56 [.ref 0, .int x1, .int x2, .int s0] (v.toList ++ []) m Q))) : pm_Ex ro m_X9_proof 43 [.ref 0, .int x1, .int x2, .null] [.int s0] mem Q := by
  have hS : pm_sig[m_X9_proof]? = some _ := rfl
  have hC : pm_cod[m_X9_proof]? = some _ := rfl
  refine ex_many (pc' := 45) (ls' := [.ref 0, .int x1, .int x2, .int s0]) (st' := [.int x2]) (mem' := mem) hS hC 2 rfl ?_
  refine ex_br (P := ¬ x2 = 0) (a := 59) (b := 48) (ls' := [.ref 0, .int x1, .int x2, .int s0]) (st' := []) (mem' := mem) hS hC rfl (fun h => ?_) (fun h => ?_)
  · replace k := k.1 (h)
    refine ex_many (pc' := 60) (ls' := [.ref 0, .int x1, .int x2, .int s0]) (st' := [.int s0]) (mem' := mem) hS hC 1 rfl ?_
    exact ex_ret (v := (some (.int s0))) hS hC rfl rfl rfl k
  · replace k := k.2 (h)
    refine ex_many (pc' := 53) (ls' := [.ref 0, .int x1, .int x2, .int s0]) (st' := [.int s0, .ref 6]) (mem' := mem) hS hC 3 rfl ?_
    refine ex_call (y' := m_X7_gainOf) (rest := []) (ent := [.ref 6, .int s0]) hS hC rfl rfl rfl rfl rfl rfl ?_
    exact k

set_option maxRecDepth 20000 in
theorem bk_X9_proof_56 {ro : pm_RO} {Q : Option Value → pm_M → Prop} {mem : pm_M} {x1 x2 x3 s0 : Int32} (k : Q (some (.int s0)) mem) : pm_Ex ro m_X9_proof 56 [.ref 0, .int x1, .int x2, .int x3] [.int s0] mem Q := by
  have hS : pm_sig[m_X9_proof]? = some _ := rfl
  have hC : pm_cod[m_X9_proof]? = some _ := rfl
  refine ex_many (pc' := 60) (ls' := [.ref 0, .int x1, .int x2, .int x3]) (st' := [.int s0]) (mem' := mem) hS hC 1 rfl ?_
  exact ex_ret (v := (some (.int s0))) hS hC rfl rfl rfl k

set_option maxRecDepth 20000 in
theorem bk_X9_raised_0 {ro : pm_RO} {Q : Option Value → pm_M → Prop} {mem : pm_M} {a1 a2 : Int32} (k : (¬ (a1 < (0 : Int32)) ∧ (¬ (((mem 3 3) - 1) < a1)) → (¬ (a2 < (0 : Int32)) ∧ (¬ ((999 : Int32) < a2)) → pm_Ex ro m_X7_leastRaise 0 [.ref 6, .int a1, .int a2, .null, .null] [] mem (fun v m => pm_Ex ro m_X9_raised 31 [.ref 0, .int a1, .int a2] (v.toList ++ []) m Q)) ∧ (¬ (¬ (a2 < (0 : Int32)) ∧ (¬ ((999 : Int32) < a2))) → Q (some (.int (-2))) mem)) ∧ (¬ (¬ (a1 < (0 : Int32)) ∧ (¬ (((mem 3 3) - 1) < a1))) → Q (some (.int (-2))) mem)) : pm_Ex ro m_X9_raised 0 [.ref 0, .int a1, .int a2] [] mem Q := by
  have hS : pm_sig[m_X9_raised]? = some _ := rfl
  have hC : pm_cod[m_X9_raised]? = some _ := rfl
  refine ex_many (pc' := 2) (ls' := [.ref 0, .int a1, .int a2]) (st' := [.int a1, .ref 0]) (mem' := mem) hS hC 2 rfl ?_
  refine ex_call (y' := m_X9_isGood) (rest := []) (ent := [.ref 0, .int a1]) hS hC rfl rfl rfl rfl rfl rfl ?_
  refine bk_X9_isGood_0 ?_
  show pm_Ex ro m_X9_raised 5 [.ref 0, .int a1, .int a2] [.int (zb (¬ (a1 < (0 : Int32)) ∧ (¬ (((mem 3 3) - 1) < a1))))] mem Q
  refine ex_br (P := (zb (¬ (a1 < (0 : Int32)) ∧ (¬ (((mem 3 3) - 1) < a1)))) = 0) (a := 19) (b := 8) (ls' := [.ref 0, .int a1, .int a2]) (st' := []) (mem' := mem) hS hC rfl (fun h => ?_) (fun h => ?_)
  · replace k := k.2 (zb0 h)
    refine ex_many (pc' := 21) (ls' := [.ref 0, .int a1, .int a2]) (st' := [.int (-2)]) (mem' := mem) hS hC 1 rfl ?_
    exact ex_ret (v := (some (.int (-2)))) hS hC rfl rfl rfl k
  · replace k := k.1 (zb1 h)
    refine ex_many (pc' := 13) (ls' := [.ref 0, .int a1, .int a2]) (st' := [.int 999, .int 0, .int a2]) (mem' := mem) hS hC 3 rfl ?_
    refine ex_call (y' := m_X9_within) (rest := []) (ent := [.int a2, .int 0, .int 999]) hS hC rfl rfl rfl rfl rfl rfl ?_
    refine bk_X9_within_0 ?_
    show pm_Ex ro m_X9_raised 16 [.ref 0, .int a1, .int a2] [.int (zb (¬ (a2 < (0 : Int32)) ∧ (¬ ((999 : Int32) < a2))))] mem Q
    refine ex_br (P := ¬ (zb (¬ (a2 < (0 : Int32)) ∧ (¬ ((999 : Int32) < a2)))) = 0) (a := 22) (b := 19) (ls' := [.ref 0, .int a1, .int a2]) (st' := []) (mem' := mem) hS hC rfl (fun h => ?_) (fun h => ?_)
    · replace k := k.1 (zb1 h)
      refine ex_many (pc' := 28) (ls' := [.ref 0, .int a1, .int a2]) (st' := [.int a2, .int a1, .ref 6]) (mem' := mem) hS hC 4 rfl ?_
      refine ex_call (y' := m_X7_leastRaise) (rest := []) (ent := [.ref 6, .int a1, .int a2, .null, .null]) hS hC rfl rfl rfl rfl rfl rfl ?_
      exact k
    · replace k := k.2 (zb0n h)
      refine ex_many (pc' := 21) (ls' := [.ref 0, .int a1, .int a2]) (st' := [.int (-2)]) (mem' := mem) hS hC 1 rfl ?_
      exact ex_ret (v := (some (.int (-2)))) hS hC rfl rfl rfl k

set_option maxRecDepth 20000 in
theorem bk_X9_raised_31 {ro : pm_RO} {Q : Option Value → pm_M → Prop} {mem : pm_M} {x1 x2 s0 : Int32} (k : Q (some (.int s0)) mem) : pm_Ex ro m_X9_raised 31 [.ref 0, .int x1, .int x2] [.int s0] mem Q := by
  have hS : pm_sig[m_X9_raised]? = some _ := rfl
  have hC : pm_cod[m_X9_raised]? = some _ := rfl
  exact ex_ret (v := (some (.int s0))) hS hC rfl rfl rfl k

set_option maxRecDepth 20000 in
theorem bk_X9_rounds_0 {ro : pm_RO} {Q : Option Value → pm_M → Prop} {mem : pm_M} {a1 a2 a3 : Int32} (k : (¬ (a1 < (0 : Int32)) ∧ (¬ ((9999 : Int32) < a1)) → (¬ (a2 < (0 : Int32)) ∧ (¬ ((9999 : Int32) < a2)) → (¬ (a3 < (0 : Int32)) ∧ (¬ ((2 : Int32) < a3)) → pm_Ex ro m_X5_payOn 0 [.ref 13, .int a1, .int a2, .null] [] mem (fun v m => pm_Ex ro m_X9_rounds 35 [.ref 0, .int a1, .int a2, .int a3] (v.toList ++ []) m Q)) ∧ (¬ (¬ (a3 < (0 : Int32)) ∧ (¬ ((2 : Int32) < a3))) → Q (some (.int (-2))) mem)) ∧ (¬ (¬ (a2 < (0 : Int32)) ∧ (¬ ((9999 : Int32) < a2))) → Q (some (.int (-2))) mem)) ∧ (¬ (¬ (a1 < (0 : Int32)) ∧ (¬ ((9999 : Int32) < a1))) → Q (some (.int (-2))) mem)) : pm_Ex ro m_X9_rounds 0 [.ref 0, .int a1, .int a2, .int a3] [] mem Q := by
  have hS : pm_sig[m_X9_rounds]? = some _ := rfl
  have hC : pm_cod[m_X9_rounds]? = some _ := rfl
  refine ex_many (pc' := 1) (ls' := [.ref 0, .int a1, .int a2, .int a3]) (st' := [.int a1]) (mem' := mem) hS hC 1 rfl ?_
  refine ex_call (y' := m_X9_isNumber) (rest := []) (ent := [.int a1]) hS hC rfl rfl rfl rfl rfl rfl ?_
  refine bk_X9_isNumber_0 ?_
  show pm_Ex ro m_X9_rounds 4 [.ref 0, .int a1, .int a2, .int a3] [.int (zb (¬ (a1 < (0 : Int32)) ∧ (¬ ((9999 : Int32) < a1))))] mem Q
  refine ex_br (P := (zb (¬ (a1 < (0 : Int32)) ∧ (¬ ((9999 : Int32) < a1)))) = 0) (a := 23) (b := 7) (ls' := [.ref 0, .int a1, .int a2, .int a3]) (st' := []) (mem' := mem) hS hC rfl (fun h => ?_) (fun h => ?_)
  · replace k := k.2 (zb0 h)
    refine ex_many (pc' := 25) (ls' := [.ref 0, .int a1, .int a2, .int a3]) (st' := [.int (-2)]) (mem' := mem) hS hC 1 rfl ?_
    exact ex_ret (v := (some (.int (-2)))) hS hC rfl rfl rfl k
  · replace k := k.1 (zb1 h)
    refine ex_many (pc' := 8) (ls' := [.ref 0, .int a1, .int a2, .int a3]) (st' := [.int a2]) (mem' := mem) hS hC 1 rfl ?_
    refine ex_call (y' := m_X9_isNumber) (rest := []) (ent := [.int a2]) hS hC rfl rfl rfl rfl rfl rfl ?_
    refine bk_X9_isNumber_0 ?_
    show pm_Ex ro m_X9_rounds 11 [.ref 0, .int a1, .int a2, .int a3] [.int (zb (¬ (a2 < (0 : Int32)) ∧ (¬ ((9999 : Int32) < a2))))] mem Q
    refine ex_br (P := (zb (¬ (a2 < (0 : Int32)) ∧ (¬ ((9999 : Int32) < a2)))) = 0) (a := 23) (b := 14) (ls' := [.ref 0, .int a1, .int a2, .int a3]) (st' := []) (mem' := mem) hS hC rfl (fun h => ?_) (fun h => ?_)
    · replace k := k.2 (zb0 h)
      refine ex_many (pc' := 25) (ls' := [.ref 0, .int a1, .int a2, .int a3]) (st' := [.int (-2)]) (mem' := mem) hS hC 1 rfl ?_
      exact ex_ret (v := (some (.int (-2)))) hS hC rfl rfl rfl k
    · replace k := k.1 (zb1 h)
      refine ex_many (pc' := 17) (ls' := [.ref 0, .int a1, .int a2, .int a3]) (st' := [.int 2, .int 0, .int a3]) (mem' := mem) hS hC 3 rfl ?_
      refine ex_call (y' := m_X9_within) (rest := []) (ent := [.int a3, .int 0, .int 2]) hS hC rfl rfl rfl rfl rfl rfl ?_
      refine bk_X9_within_0 ?_
      show pm_Ex ro m_X9_rounds 20 [.ref 0, .int a1, .int a2, .int a3] [.int (zb (¬ (a3 < (0 : Int32)) ∧ (¬ ((2 : Int32) < a3))))] mem Q
      refine ex_br (P := ¬ (zb (¬ (a3 < (0 : Int32)) ∧ (¬ ((2 : Int32) < a3)))) = 0) (a := 26) (b := 23) (ls' := [.ref 0, .int a1, .int a2, .int a3]) (st' := []) (mem' := mem) hS hC rfl (fun h => ?_) (fun h => ?_)
      · replace k := k.1 (zb1 h)
        refine ex_many (pc' := 32) (ls' := [.ref 0, .int a1, .int a2, .int a3]) (st' := [.int a2, .int a1, .ref 13]) (mem' := mem) hS hC 4 rfl ?_
        refine ex_call (y' := m_X5_payOn) (rest := []) (ent := [.ref 13, .int a1, .int a2, .null]) hS hC rfl rfl rfl rfl rfl rfl ?_
        exact k
      · replace k := k.2 (zb0n h)
        refine ex_many (pc' := 25) (ls' := [.ref 0, .int a1, .int a2, .int a3]) (st' := [.int (-2)]) (mem' := mem) hS hC 1 rfl ?_
        exact ex_ret (v := (some (.int (-2)))) hS hC rfl rfl rfl k

set_option maxRecDepth 20000 in
theorem bk_X9_rounds_36_c0 {ro : pm_RO} {Q : Option Value → pm_M → Prop} {mem : pm_M} {x1 x2 x3 : Int32} (k : Q (some (.int (mem 13 2))) mem) : pm_Ex ro m_X9_rounds 36 [.ref 0, .int x1, .int x2, .int x3] [.int 0] mem Q := by
  have hS : pm_sig[m_X9_rounds]? = some _ := rfl
  have hC : pm_cod[m_X9_rounds]? = some _ := rfl
  refine ex_one (pc' := 64) (ls' := [.ref 0, .int x1, .int x2, .int x3]) (st' := []) (mem' := mem) hS hC rfl ?_
  refine ex_many (pc' := 68) (ls' := [.ref 0, .int x1, .int x2, .int x3]) (st' := [.ref 13]) (mem' := mem) hS hC 2 rfl ?_
  refine ex_call (y' := m_X5_roundsPaid) (rest := []) (ent := [.ref 13]) hS hC rfl rfl rfl rfl rfl rfl ?_
  refine bk_X5_roundsPaid_0 ?_
  show pm_Ex ro m_X9_rounds 71 [.ref 0, .int x1, .int x2, .int x3] [.int (mem 13 2)] mem Q
  exact ex_ret (v := (some (.int (mem 13 2)))) hS hC rfl rfl rfl k

set_option maxRecDepth 20000 in
theorem bk_X9_rounds_36_c1 {ro : pm_RO} {Q : Option Value → pm_M → Prop} {mem : pm_M} {x1 x2 x3 : Int32} (k : (pm_inb (mem 13 2) 201 = true) ∧ (Q (some (.int (mem 14 ((mem 13 2).toNatClampNeg)))) mem)) : pm_Ex ro m_X9_rounds 36 [.ref 0, .int x1, .int x2, .int x3] [.int 1] mem Q := by
  have hS : pm_sig[m_X9_rounds]? = some _ := rfl
  have hC : pm_cod[m_X9_rounds]? = some _ := rfl
  refine ex_one (pc' := 72) (ls' := [.ref 0, .int x1, .int x2, .int x3]) (st' := []) (mem' := mem) hS hC rfl ?_
  refine ex_many (pc' := 76) (ls' := [.ref 0, .int x1, .int x2, .int x3]) (st' := [.ref 13]) (mem' := mem) hS hC 2 rfl ?_
  refine ex_call (y' := m_X5_contents) (rest := []) (ent := [.ref 13]) hS hC rfl rfl rfl rfl rfl rfl ?_
  refine bk_X5_contents_0 ⟨k.1, ?_⟩
  replace k := k.2
  show pm_Ex ro m_X9_rounds 79 [.ref 0, .int x1, .int x2, .int x3] [.int (mem 14 ((mem 13 2).toNatClampNeg))] mem Q
  exact ex_ret (v := (some (.int (mem 14 ((mem 13 2).toNatClampNeg))))) hS hC rfl rfl rfl k

set_option maxRecDepth 20000 in
theorem bk_X9_rounds_36_d {ro : pm_RO} {Q : Option Value → pm_M → Prop} {mem : pm_M} {x1 x2 x3 s0 : Int32} (h0 : ¬ s0 = 0) (h1 : ¬ s0 = 1) (k : pm_Ex ro m_X5_firstReturn 0 [.ref 13, .null, .null] [] mem (fun v m => pm_Ex ro m_X9_rounds 87 [.ref 0, .int x1, .int x2, .int x3] (v.toList ++ []) m Q)) : pm_Ex ro m_X9_rounds 36 [.ref 0, .int x1, .int x2, .int x3] [.int s0] mem Q := by
  have hS : pm_sig[m_X9_rounds]? = some _ := rfl
  have hC : pm_cod[m_X9_rounds]? = some _ := rfl
  refine ex_lswd hS hC rfl rfl (a := 80) rfl ((lv_osw h0 (by decide)).trans ((lv_osw h1 (by decide)).trans rfl)) ?_
  refine ex_many (pc' := 84) (ls' := [.ref 0, .int x1, .int x2, .int x3]) (st' := [.ref 13]) (mem' := mem) hS hC 2 rfl ?_
  refine ex_call (y' := m_X5_firstReturn) (rest := []) (ent := [.ref 13, .null, .null]) hS hC rfl rfl rfl rfl rfl rfl ?_
  exact k

set_option maxRecDepth 20000 in
theorem bk_X9_rounds_35 {ro : pm_RO} {Q : Option Value → pm_M → Prop} {mem : pm_M} {x1 x2 x3 : Int32} (k : pm_Ex ro m_X9_rounds 36 [.ref 0, .int x1, .int x2, .int x3] [.int x3] mem Q) : pm_Ex ro m_X9_rounds 35 [.ref 0, .int x1, .int x2, .int x3] [] mem Q := by
  have hS : pm_sig[m_X9_rounds]? = some _ := rfl
  have hC : pm_cod[m_X9_rounds]? = some _ := rfl
  refine ex_many (pc' := 36) (ls' := [.ref 0, .int x1, .int x2, .int x3]) (st' := [.int x3]) (mem' := mem) hS hC 1 rfl ?_
  exact k

set_option maxRecDepth 20000 in
theorem bk_X9_rounds_87 {ro : pm_RO} {Q : Option Value → pm_M → Prop} {mem : pm_M} {x1 x2 x3 s0 : Int32} (k : Q (some (.int s0)) mem) : pm_Ex ro m_X9_rounds 87 [.ref 0, .int x1, .int x2, .int x3] [.int s0] mem Q := by
  have hS : pm_sig[m_X9_rounds]? = some _ := rfl
  have hC : pm_cod[m_X9_rounds]? = some _ := rfl
  exact ex_ret (v := (some (.int s0))) hS hC rfl rfl rfl k

set_option maxRecDepth 20000 in
theorem bk_X9_figures_0 {ro : pm_RO} {Q : Option Value → pm_M → Prop} {mem : pm_M} {a1 a2 : Int32} (k : (¬ (a1 < (1 : Int32)) ∧ (¬ ((3 : Int32) < a1)) → (¬ (a2 < (0 : Int32)) ∧ (¬ ((3 : Int32) < a2)) → pm_Ex ro m_X0_answer 0 [.ref 15, .int a1, .int a2] [] mem (fun v m => pm_Ex ro m_X9_figures 30 [.ref 0, .int a1, .int a2] (v.toList ++ []) m Q)) ∧ (¬ (¬ (a2 < (0 : Int32)) ∧ (¬ ((3 : Int32) < a2))) → Q (some (.int (-2))) mem)) ∧ (¬ (¬ (a1 < (1 : Int32)) ∧ (¬ ((3 : Int32) < a1))) → Q (some (.int (-2))) mem)) : pm_Ex ro m_X9_figures 0 [.ref 0, .int a1, .int a2] [] mem Q := by
  have hS : pm_sig[m_X9_figures]? = some _ := rfl
  have hC : pm_cod[m_X9_figures]? = some _ := rfl
  refine ex_many (pc' := 3) (ls' := [.ref 0, .int a1, .int a2]) (st' := [.int 3, .int 1, .int a1]) (mem' := mem) hS hC 3 rfl ?_
  refine ex_call (y' := m_X9_within) (rest := []) (ent := [.int a1, .int 1, .int 3]) hS hC rfl rfl rfl rfl rfl rfl ?_
  refine bk_X9_within_0 ?_
  show pm_Ex ro m_X9_figures 6 [.ref 0, .int a1, .int a2] [.int (zb (¬ (a1 < (1 : Int32)) ∧ (¬ ((3 : Int32) < a1))))] mem Q
  refine ex_br (P := (zb (¬ (a1 < (1 : Int32)) ∧ (¬ ((3 : Int32) < a1)))) = 0) (a := 18) (b := 9) (ls' := [.ref 0, .int a1, .int a2]) (st' := []) (mem' := mem) hS hC rfl (fun h => ?_) (fun h => ?_)
  · replace k := k.2 (zb0 h)
    refine ex_many (pc' := 20) (ls' := [.ref 0, .int a1, .int a2]) (st' := [.int (-2)]) (mem' := mem) hS hC 1 rfl ?_
    exact ex_ret (v := (some (.int (-2)))) hS hC rfl rfl rfl k
  · replace k := k.1 (zb1 h)
    refine ex_many (pc' := 12) (ls' := [.ref 0, .int a1, .int a2]) (st' := [.int 3, .int 0, .int a2]) (mem' := mem) hS hC 3 rfl ?_
    refine ex_call (y' := m_X9_within) (rest := []) (ent := [.int a2, .int 0, .int 3]) hS hC rfl rfl rfl rfl rfl rfl ?_
    refine bk_X9_within_0 ?_
    show pm_Ex ro m_X9_figures 15 [.ref 0, .int a1, .int a2] [.int (zb (¬ (a2 < (0 : Int32)) ∧ (¬ ((3 : Int32) < a2))))] mem Q
    refine ex_br (P := ¬ (zb (¬ (a2 < (0 : Int32)) ∧ (¬ ((3 : Int32) < a2)))) = 0) (a := 21) (b := 18) (ls' := [.ref 0, .int a1, .int a2]) (st' := []) (mem' := mem) hS hC rfl (fun h => ?_) (fun h => ?_)
    · replace k := k.1 (zb1 h)
      refine ex_many (pc' := 27) (ls' := [.ref 0, .int a1, .int a2]) (st' := [.int a2, .int a1, .ref 15]) (mem' := mem) hS hC 4 rfl ?_
      refine ex_call (y' := m_X0_answer) (rest := []) (ent := [.ref 15, .int a1, .int a2]) hS hC rfl rfl rfl rfl rfl rfl ?_
      exact k
    · replace k := k.2 (zb0n h)
      refine ex_many (pc' := 20) (ls' := [.ref 0, .int a1, .int a2]) (st' := [.int (-2)]) (mem' := mem) hS hC 1 rfl ?_
      exact ex_ret (v := (some (.int (-2)))) hS hC rfl rfl rfl k

set_option maxRecDepth 20000 in
theorem bk_X9_figures_30 {ro : pm_RO} {Q : Option Value → pm_M → Prop} {mem : pm_M} {x1 x2 s0 : Int32} (k : Q (some (.int s0)) mem) : pm_Ex ro m_X9_figures 30 [.ref 0, .int x1, .int x2] [.int s0] mem Q := by
  have hS : pm_sig[m_X9_figures]? = some _ := rfl
  have hC : pm_cod[m_X9_figures]? = some _ := rfl
  exact ex_ret (v := (some (.int s0))) hS hC rfl rfl rfl k

set_option maxRecDepth 20000 in
theorem bk_X9_rent_0 {ro : pm_RO} {Q : Option Value → pm_M → Prop} {mem : pm_M} {a1 a2 a3 : Int32} (k : (¬ (a1 < (0 : Int32)) ∧ (¬ ((120 : Int32) < a1)) → (¬ (a2 < (1 : Int32)) ∧ (¬ ((6 : Int32) < a2)) → (¬ (a3 < (0 : Int32)) ∧ (¬ ((1 : Int32) < a3)) → pm_Ex ro m_X3_part 0 [.ref 17, .int a1, .int a2, .int (zb (¬ (¬ a3 = 1))), .null, .null] [] mem (fun v m => pm_Ex ro m_X9_rent 51 [.ref 0, .int a1, .int a2, .int a3] (v.toList ++ []) m Q)) ∧ (¬ (¬ (a3 < (0 : Int32)) ∧ (¬ ((1 : Int32) < a3))) → Q (some (.int (-2))) mem)) ∧ (¬ (¬ (a2 < (1 : Int32)) ∧ (¬ ((6 : Int32) < a2))) → Q (some (.int (-2))) mem)) ∧ (¬ (¬ (a1 < (0 : Int32)) ∧ (¬ ((120 : Int32) < a1))) → Q (some (.int (-2))) mem)) : pm_Ex ro m_X9_rent 0 [.ref 0, .int a1, .int a2, .int a3] [] mem Q := by
  have hS : pm_sig[m_X9_rent]? = some _ := rfl
  have hC : pm_cod[m_X9_rent]? = some _ := rfl
  refine ex_many (pc' := 4) (ls' := [.ref 0, .int a1, .int a2, .int a3]) (st' := [.int 120, .int 0, .int a1]) (mem' := mem) hS hC 3 rfl ?_
  refine ex_call (y' := m_X9_within) (rest := []) (ent := [.int a1, .int 0, .int 120]) hS hC rfl rfl rfl rfl rfl rfl ?_
  refine bk_X9_within_0 ?_
  show pm_Ex ro m_X9_rent 7 [.ref 0, .int a1, .int a2, .int a3] [.int (zb (¬ (a1 < (0 : Int32)) ∧ (¬ ((120 : Int32) < a1))))] mem Q
  refine ex_br (P := (zb (¬ (a1 < (0 : Int32)) ∧ (¬ ((120 : Int32) < a1)))) = 0) (a := 29) (b := 10) (ls' := [.ref 0, .int a1, .int a2, .int a3]) (st' := []) (mem' := mem) hS hC rfl (fun h => ?_) (fun h => ?_)
  · replace k := k.2 (zb0 h)
    refine ex_many (pc' := 31) (ls' := [.ref 0, .int a1, .int a2, .int a3]) (st' := [.int (-2)]) (mem' := mem) hS hC 1 rfl ?_
    exact ex_ret (v := (some (.int (-2)))) hS hC rfl rfl rfl k
  · replace k := k.1 (zb1 h)
    refine ex_many (pc' := 14) (ls' := [.ref 0, .int a1, .int a2, .int a3]) (st' := [.int 6, .int 1, .int a2]) (mem' := mem) hS hC 3 rfl ?_
    refine ex_call (y' := m_X9_within) (rest := []) (ent := [.int a2, .int 1, .int 6]) hS hC rfl rfl rfl rfl rfl rfl ?_
    refine bk_X9_within_0 ?_
    show pm_Ex ro m_X9_rent 17 [.ref 0, .int a1, .int a2, .int a3] [.int (zb (¬ (a2 < (1 : Int32)) ∧ (¬ ((6 : Int32) < a2))))] mem Q
    refine ex_br (P := (zb (¬ (a2 < (1 : Int32)) ∧ (¬ ((6 : Int32) < a2)))) = 0) (a := 29) (b := 20) (ls' := [.ref 0, .int a1, .int a2, .int a3]) (st' := []) (mem' := mem) hS hC rfl (fun h => ?_) (fun h => ?_)
    · replace k := k.2 (zb0 h)
      refine ex_many (pc' := 31) (ls' := [.ref 0, .int a1, .int a2, .int a3]) (st' := [.int (-2)]) (mem' := mem) hS hC 1 rfl ?_
      exact ex_ret (v := (some (.int (-2)))) hS hC rfl rfl rfl k
    · replace k := k.1 (zb1 h)
      refine ex_many (pc' := 23) (ls' := [.ref 0, .int a1, .int a2, .int a3]) (st' := [.int 1, .int 0, .int a3]) (mem' := mem) hS hC 3 rfl ?_
      refine ex_call (y' := m_X9_within) (rest := []) (ent := [.int a3, .int 0, .int 1]) hS hC rfl rfl rfl rfl rfl rfl ?_
      refine bk_X9_within_0 ?_
      show pm_Ex ro m_X9_rent 26 [.ref 0, .int a1, .int a2, .int a3] [.int (zb (¬ (a3 < (0 : Int32)) ∧ (¬ ((1 : Int32) < a3))))] mem Q
      refine ex_br (P := ¬ (zb (¬ (a3 < (0 : Int32)) ∧ (¬ ((1 : Int32) < a3)))) = 0) (a := 32) (b := 29) (ls' := [.ref 0, .int a1, .int a2, .int a3]) (st' := []) (mem' := mem) hS hC rfl (fun h => ?_) (fun h => ?_)
      · replace k := k.1 (zb1 h)
        refine ex_many (pc' := 40) (ls' := [.ref 0, .int a1, .int a2, .int a3]) (st' := [.int 1, .int a3, .int a2, .int a1, .ref 17]) (mem' := mem) hS hC 6 rfl ?_
        have kp30 : pm_Ex ro m_X9_rent 48 [.ref 0, .int a1, .int a2, .int a3] [.int (zb (¬ (¬ a3 = 1))), .int a2, .int a1, .ref 17] mem Q := by
          refine ex_call (y' := m_X3_part) (rest := []) (ent := [.ref 17, .int a1, .int a2, .int (zb (¬ (¬ a3 = 1))), .null, .null]) hS hC rfl rfl rfl rfl rfl rfl ?_
          exact k
        refine ex_br (P := ¬ a3 = 1) (a := 47) (b := 43) (ls' := [.ref 0, .int a1, .int a2, .int a3]) (st' := [.int a2, .int a1, .ref 17]) (mem' := mem) hS hC rfl (fun h => ?_) (fun h => ?_)
        · have kp30a : pm_Ex ro m_X9_rent 48 [.ref 0, .int a1, .int a2, .int a3] [.int 0, .int a2, .int a1, .ref 17] mem Q := pm_phi1 (f := fun z0 => pm_Ex ro m_X9_rent 48 [.ref 0, .int a1, .int a2, .int a3] [.int z0, .int a2, .int a1, .ref 17] mem Q) (zb_npos (h)) kp30
          refine ex_many (pc' := 48) (ls' := [.ref 0, .int a1, .int a2, .int a3]) (st' := [.int 0, .int a2, .int a1, .ref 17]) (mem' := mem) hS hC 1 rfl ?_
          exact kp30a
        · have kp30b : pm_Ex ro m_X9_rent 48 [.ref 0, .int a1, .int a2, .int a3] [.int 1, .int a2, .int a1, .ref 17] mem Q := pm_phi1 (f := fun z0 => pm_Ex ro m_X9_rent 48 [.ref 0, .int a1, .int a2, .int a3] [.int z0, .int a2, .int a1, .ref 17] mem Q) (zb_nneg (h)) kp30
          refine ex_many (pc' := 48) (ls' := [.ref 0, .int a1, .int a2, .int a3]) (st' := [.int 1, .int a2, .int a1, .ref 17]) (mem' := mem) hS hC 2 rfl ?_
          exact kp30b
      · replace k := k.2 (zb0n h)
        refine ex_many (pc' := 31) (ls' := [.ref 0, .int a1, .int a2, .int a3]) (st' := [.int (-2)]) (mem' := mem) hS hC 1 rfl ?_
        exact ex_ret (v := (some (.int (-2)))) hS hC rfl rfl rfl k

set_option maxRecDepth 20000 in
theorem bk_X9_rent_51 {ro : pm_RO} {Q : Option Value → pm_M → Prop} {mem : pm_M} {x1 x2 x3 s0 : Int32} (k : Q (some (.int s0)) mem) : pm_Ex ro m_X9_rent 51 [.ref 0, .int x1, .int x2, .int x3] [.int s0] mem Q := by
  have hS : pm_sig[m_X9_rent]? = some _ := rfl
  have hC : pm_cod[m_X9_rent]? = some _ := rfl
  exact ex_ret (v := (some (.int s0))) hS hC rfl rfl rfl k

set_option maxRecDepth 20000 in
theorem bk_X9_share_0 {ro : pm_RO} {Q : Option Value → pm_M → Prop} {mem : pm_M} {a1 a2 : Int32} (k : (¬ (a1 < (0 : Int32)) ∧ (¬ ((3 : Int32) < a1)) → (¬ (a2 < (0 : Int32)) ∧ (¬ ((1 : Int32) < a2)) → pm_Ex ro m_X4_broughtInAllOrders 0 [.ref 11, .int a1, .null, .null, .null, .null, .null] [] mem (fun v m => pm_Ex ro m_X9_share 28 [.ref 0, .int a1, .int a2, .null, .null, .null] (v.toList ++ []) m Q)) ∧ (¬ (¬ (a2 < (0 : Int32)) ∧ (¬ ((1 : Int32) < a2))) → Q (some (.long (-9223372036854775806))) mem)) ∧ (¬ (¬ (a1 < (0 : Int32)) ∧ (¬ ((3 : Int32) < a1))) → Q (some (.long (-9223372036854775806))) mem)) : pm_Ex ro m_X9_share 0 [.ref 0, .int a1, .int a2, .null, .null, .null] [] mem Q := by
  have hS : pm_sig[m_X9_share]? = some _ := rfl
  have hC : pm_cod[m_X9_share]? = some _ := rfl
  refine ex_many (pc' := 1) (ls' := [.ref 0, .int a1, .int a2, .null, .null, .null]) (st' := [.int a1]) (mem' := mem) hS hC 1 rfl ?_
  refine ex_call (y' := m_X9_isPartner) (rest := []) (ent := [.int a1]) hS hC rfl rfl rfl rfl rfl rfl ?_
  refine bk_X9_isPartner_0 ?_
  show pm_Ex ro m_X9_share 4 [.ref 0, .int a1, .int a2, .null, .null, .null] [.int (zb (¬ (a1 < (0 : Int32)) ∧ (¬ ((3 : Int32) < a1))))] mem Q
  refine ex_br (P := (zb (¬ (a1 < (0 : Int32)) ∧ (¬ ((3 : Int32) < a1)))) = 0) (a := 16) (b := 7) (ls' := [.ref 0, .int a1, .int a2, .null, .null, .null]) (st' := []) (mem' := mem) hS hC rfl (fun h => ?_) (fun h => ?_)
  · replace k := k.2 (zb0 h)
    refine ex_many (pc' := 19) (ls' := [.ref 0, .int a1, .int a2, .null, .null, .null]) (st' := [.long (-9223372036854775806)]) (mem' := mem) hS hC 1 rfl ?_
    exact ex_ret (v := (some (.long (-9223372036854775806)))) hS hC rfl rfl rfl k
  · replace k := k.1 (zb1 h)
    refine ex_many (pc' := 10) (ls' := [.ref 0, .int a1, .int a2, .null, .null, .null]) (st' := [.int 1, .int 0, .int a2]) (mem' := mem) hS hC 3 rfl ?_
    refine ex_call (y' := m_X9_within) (rest := []) (ent := [.int a2, .int 0, .int 1]) hS hC rfl rfl rfl rfl rfl rfl ?_
    refine bk_X9_within_0 ?_
    show pm_Ex ro m_X9_share 13 [.ref 0, .int a1, .int a2, .null, .null, .null] [.int (zb (¬ (a2 < (0 : Int32)) ∧ (¬ ((1 : Int32) < a2))))] mem Q
    refine ex_br (P := ¬ (zb (¬ (a2 < (0 : Int32)) ∧ (¬ ((1 : Int32) < a2)))) = 0) (a := 20) (b := 16) (ls' := [.ref 0, .int a1, .int a2, .null, .null, .null]) (st' := []) (mem' := mem) hS hC rfl (fun h => ?_) (fun h => ?_)
    · replace k := k.1 (zb1 h)
      refine ex_many (pc' := 25) (ls' := [.ref 0, .int a1, .int a2, .null, .null, .null]) (st' := [.int a1, .ref 11]) (mem' := mem) hS hC 3 rfl ?_
      refine ex_call (y' := m_X4_broughtInAllOrders) (rest := []) (ent := [.ref 11, .int a1, .null, .null, .null, .null, .null]) hS hC rfl rfl rfl rfl rfl rfl ?_
      exact k
    · replace k := k.2 (zb0n h)
      refine ex_many (pc' := 19) (ls' := [.ref 0, .int a1, .int a2, .null, .null, .null]) (st' := [.long (-9223372036854775806)]) (mem' := mem) hS hC 1 rfl ?_
      exact ex_ret (v := (some (.long (-9223372036854775806)))) hS hC rfl rfl rfl k

set_option maxRecDepth 20000 in
theorem bk_X9_share_28 {ro : pm_RO} {Q : Option Value → pm_M → Prop} {mem : pm_M} {x1 x2 : Int32} {s0 : Int64} (k : pm_Ex ro m_X4_commonWithOrders 0 [.long s0, .null, .null] [] mem (fun v m => pm_Ex ro m_X9_share 33 [.ref 0, .int x1, .int x2, .long s0, .null, .null] (v.toList ++ []) m Q)) : pm_Ex ro m_X9_share 28 [.ref 0, .int x1, .int x2, .null, .null, .null] [.long s0] mem Q := by
  have hS : pm_sig[m_X9_share]? = some _ := rfl
  have hC : pm_cod[m_X9_share]? = some _ := rfl
  refine ex_many (pc' := 30) (ls' := [.ref 0, .int x1, .int x2, .long s0, .null, .null]) (st' := [.long s0]) (mem' := mem) hS hC 2 rfl ?_
  refine ex_call (y' := m_X4_commonWithOrders) (rest := []) (ent := [.long s0, .null, .null]) hS hC rfl rfl rfl rfl rfl rfl ?_
  exact k

set_option maxRecDepth 20000 in
theorem bk_X9_share_33 {ro : pm_RO} {Q : Option Value → pm_M → Prop} {mem : pm_M} {x1 x2 s0 : Int32} {x3 : Int64} (k : (¬ x2 = 0 → (¬ s0 = 0) ∧ (Q (some (.long ((24 / s0).toInt64))) mem)) ∧ (¬ (¬ x2 = 0) → (¬ s0.toInt64 = 0) ∧ (Q (some (.long (x3 / s0.toInt64))) mem))) : pm_Ex ro m_X9_share 33 [.ref 0, .int x1, .int x2, .long x3, .null, .null] [.int s0] mem Q := by
  have hS : pm_sig[m_X9_share]? = some _ := rfl
  have hC : pm_cod[m_X9_share]? = some _ := rfl
  refine ex_many (pc' := 36) (ls' := [.ref 0, .int x1, .int x2, .long x3, .null, .int s0]) (st' := [.int x2]) (mem' := mem) hS hC 2 rfl ?_
  refine ex_br (P := ¬ x2 = 0) (a := 47) (b := 39) (ls' := [.ref 0, .int x1, .int x2, .long x3, .null, .int s0]) (st' := []) (mem' := mem) hS hC rfl (fun h => ?_) (fun h => ?_)
  · replace k := k.1 (h)
    refine ex_many (pc' := 51) (ls' := [.ref 0, .int x1, .int x2, .long x3, .null, .int s0]) (st' := [.int s0, .int 24]) (mem' := mem) hS hC 2 rfl ?_
    refine ex_grd (b := !(decide (s0 = 0))) (pc' := 52) (ls' := [.ref 0, .int x1, .int x2, .long x3, .null, .int s0]) (st' := [.int (24 / s0)]) (mem' := mem) hS hC rfl (pm_nz k.1) ?_
    replace k := k.2
    refine ex_many (pc' := 53) (ls' := [.ref 0, .int x1, .int x2, .long x3, .null, .int s0]) (st' := [.long ((24 / s0).toInt64)]) (mem' := mem) hS hC 1 rfl ?_
    exact ex_ret (v := (some (.long ((24 / s0).toInt64)))) hS hC rfl rfl rfl k
  · replace k := k.2 (h)
    refine ex_many (pc' := 43) (ls' := [.ref 0, .int x1, .int x2, .long x3, .null, .int s0]) (st' := [.long s0.toInt64, .long x3]) (mem' := mem) hS hC 3 rfl ?_
    refine ex_grd (b := !(decide (s0.toInt64 = 0))) (pc' := 44) (ls' := [.ref 0, .int x1, .int x2, .long x3, .null, .int s0]) (st' := [.long (x3 / s0.toInt64)]) (mem' := mem) hS hC rfl (pm_nzl k.1) ?_
    replace k := k.2
    refine ex_many (pc' := 53) (ls' := [.ref 0, .int x1, .int x2, .long x3, .null, .int s0]) (st' := [.long (x3 / s0.toInt64)]) (mem' := mem) hS hC 1 rfl ?_
    exact ex_ret (v := (some (.long (x3 / s0.toInt64)))) hS hC rfl rfl rfl k

set_option maxRecDepth 20000 in
theorem bk_X9_smudged_0 {ro : pm_RO} {Q : Option Value → pm_M → Prop} {mem : pm_M} {a1 a2 : Int32} (k : (¬ (a1 < (0 : Int32)) ∧ (¬ ((3 : Int32) < a1)) → (¬ (a2 < (0 : Int32)) ∧ (¬ ((1 : Int32) < a2)) → (pm_inb a1 4 = true) ∧ ((¬ (¬ (mem (24 + 2 * a1.toNatClampNeg) 1) = (-1)) → Q (some (.int ((-10) - (1 : Int32)))) (pm_up mem 0 10 (1 : Int32))) ∧ (¬ (¬ (¬ (mem (24 + 2 * a1.toNatClampNeg) 1) = (-1))) → pm_Ex ro m_X9_smudged 51 [.ref 0, .int a1, .int a2, .int 0, .int (-1), .int (((1 : Int32) <<< ((mem 3 3) &&& 31)) - 1), .null] [] mem Q))) ∧ (¬ (¬ (a2 < (0 : Int32)) ∧ (¬ ((1 : Int32) < a2))) → Q (some (.int (-2))) mem)) ∧ (¬ (¬ (a1 < (0 : Int32)) ∧ (¬ ((3 : Int32) < a1))) → Q (some (.int (-2))) mem)) : pm_Ex ro m_X9_smudged 0 [.ref 0, .int a1, .int a2, .null, .null, .null, .null] [] mem Q := by
  have hS : pm_sig[m_X9_smudged]? = some _ := rfl
  have hC : pm_cod[m_X9_smudged]? = some _ := rfl
  refine ex_many (pc' := 1) (ls' := [.ref 0, .int a1, .int a2, .null, .null, .null, .null]) (st' := [.int a1]) (mem' := mem) hS hC 1 rfl ?_
  refine ex_call (y' := m_X9_isSheet) (rest := []) (ent := [.int a1]) hS hC rfl rfl rfl rfl rfl rfl ?_
  refine bk_X9_isSheet_0 ?_
  show pm_Ex ro m_X9_smudged 4 [.ref 0, .int a1, .int a2, .null, .null, .null, .null] [.int (zb (¬ (a1 < (0 : Int32)) ∧ (¬ ((3 : Int32) < a1))))] mem Q
  refine ex_br (P := (zb (¬ (a1 < (0 : Int32)) ∧ (¬ ((3 : Int32) < a1)))) = 0) (a := 16) (b := 7) (ls' := [.ref 0, .int a1, .int a2, .null, .null, .null, .null]) (st' := []) (mem' := mem) hS hC rfl (fun h => ?_) (fun h => ?_)
  · replace k := k.2 (zb0 h)
    refine ex_many (pc' := 18) (ls' := [.ref 0, .int a1, .int a2, .null, .null, .null, .null]) (st' := [.int (-2)]) (mem' := mem) hS hC 1 rfl ?_
    exact ex_ret (v := (some (.int (-2)))) hS hC rfl rfl rfl k
  · replace k := k.1 (zb1 h)
    refine ex_many (pc' := 10) (ls' := [.ref 0, .int a1, .int a2, .null, .null, .null, .null]) (st' := [.int 1, .int 0, .int a2]) (mem' := mem) hS hC 3 rfl ?_
    refine ex_call (y' := m_X9_within) (rest := []) (ent := [.int a2, .int 0, .int 1]) hS hC rfl rfl rfl rfl rfl rfl ?_
    refine bk_X9_within_0 ?_
    show pm_Ex ro m_X9_smudged 13 [.ref 0, .int a1, .int a2, .null, .null, .null, .null] [.int (zb (¬ (a2 < (0 : Int32)) ∧ (¬ ((1 : Int32) < a2))))] mem Q
    refine ex_br (P := ¬ (zb (¬ (a2 < (0 : Int32)) ∧ (¬ ((1 : Int32) < a2)))) = 0) (a := 19) (b := 16) (ls' := [.ref 0, .int a1, .int a2, .null, .null, .null, .null]) (st' := []) (mem' := mem) hS hC rfl (fun h => ?_) (fun h => ?_)
    · replace k := k.1 (zb1 h)
      refine ex_many (pc' := 24) (ls' := [.ref 0, .int a1, .int a2, .null, .null, .null, .null]) (st' := [.int a1, .ref 23]) (mem' := mem) hS hC 3 rfl ?_
      have hg_a1 := k.1
      refine ex_aalS hS hC rfl hg_a1 ?_
      replace k := k.2
      refine ex_call (y' := m_X6_isLost) (rest := []) (ent := [.ref (24 + 2 * a1.toNatClampNeg)]) hS hC rfl rfl rfl (pm_calS rfl rfl rfl (pm_shl (pm_shN hg_a1))) rfl rfl ?_
      refine bk_X6_isLost_0 (pm_shN hg_a1) ?_
      show pm_Ex ro m_X9_smudged 28 [.ref 0, .int a1, .int a2, .null, .null, .null, .null] [.int (zb (¬ (¬ (mem (24 + 2 * a1.toNatClampNeg) 1) = (-1))))] mem Q
      refine ex_br (P := (zb (¬ (¬ (mem (24 + 2 * a1.toNatClampNeg) 1) = (-1)))) = 0) (a := 37) (b := 31) (ls' := [.ref 0, .int a1, .int a2, .null, .null, .null, .null]) (st' := []) (mem' := mem) hS hC rfl (fun h => ?_) (fun h => ?_)
      · replace k := k.2 (zb0 h)
        refine ex_many (pc' := 46) (ls' := [.ref 0, .int a1, .int a2, .int 0, .int (-1), .null, .null]) (st' := [.ref 3]) (mem' := mem) hS hC 6 rfl ?_
        refine ex_call (y' := m_X1_allBits) (rest := []) (ent := [.ref 3]) hS hC rfl rfl rfl rfl rfl rfl ?_
        refine bk_X1_allBits_0 ?_
        show pm_Ex ro m_X9_smudged 49 [.ref 0, .int a1, .int a2, .int 0, .int (-1), .null, .null] [.int (((1 : Int32) <<< ((mem 3 3) &&& 31)) - 1)] mem Q
        refine ex_many (pc' := 51) (ls' := [.ref 0, .int a1, .int a2, .int 0, .int (-1), .int (((1 : Int32) <<< ((mem 3 3) &&& 31)) - 1), .null]) (st' := []) (mem' := mem) hS hC 1 rfl ?_
        exact k
      · replace k := k.1 (zb1 h)
        refine ex_many (pc' := 33) (ls' := [.ref 0, .int a1, .int a2, .null, .null, .null, .null]) (st' := [.int 1, .ref 0]) (mem' := mem) hS hC 2 rfl ?_
        refine ex_call (y' := m_X9_finding) (rest := []) (ent := [.ref 0, .int 1]) hS hC rfl rfl rfl rfl rfl rfl ?_
        refine bk_X9_finding_0 ?_
        show pm_Ex ro m_X9_smudged 36 [.ref 0, .int a1, .int a2, .null, .null, .null, .null] [.int ((-10) - (1 : Int32))] (pm_up mem 0 10 (1 : Int32)) Q
        exact ex_ret (v := (some (.int ((-10) - (1 : Int32))))) hS hC rfl rfl rfl k
    · replace k := k.2 (zb0n h)
      refine ex_many (pc' := 18) (ls' := [.ref 0, .int a1, .int a2, .null, .null, .null, .null]) (st' := [.int (-2)]) (mem' := mem) hS hC 1 rfl ?_
      exact ex_ret (v := (some (.int (-2)))) hS hC rfl rfl rfl k

set_option maxRecDepth 20000 in
theorem bk_X9_smudged_51 {ro : pm_RO} {Q : Option Value → pm_M → Prop} {mem : pm_M} {x1 x2 x3 x4 x5 : Int32} {d6 : Value} (k : (x5 ≤ 0 → Q (some (.int (if ¬ x2 = 0 then x4 else x3 : Int32))) mem) ∧ (¬ (x5 ≤ 0) → pm_Ex ro m_X7_paidOf 0 [.ref 6, .int x5] [] mem (fun v m => pm_Ex ro m_X9_smudged 69 [.ref 0, .int x1, .int x2, .int x3, .int x4, .int x5, d6] (v.toList ++ [.ref 1]) m Q))) : pm_Ex ro m_X9_smudged 51 [.ref 0, .int x1, .int x2, .int x3, .int x4, .int x5, d6] [] mem Q := by
  have hS : pm_sig[m_X9_smudged]? = some _ := rfl
  have hC : pm_cod[m_X9_smudged]? = some _ := rfl
  refine ex_many (pc' := 53) (ls' := [.ref 0, .int x1, .int x2, .int x3, .int x4, .int x5, d6]) (st' := [.int x5]) (mem' := mem) hS hC 1 rfl ?_
  refine ex_br (P := x5 ≤ 0) (a := 109) (b := 56) (ls' := [.ref 0, .int x1, .int x2, .int x3, .int x4, .int x5, d6]) (st' := []) (mem' := mem) hS hC rfl (fun h => ?_) (fun h => ?_)
  · replace k := k.1 (h)
    refine ex_many (pc' := 110) (ls' := [.ref 0, .int x1, .int x2, .int x3, .int x4, .int x5, d6]) (st' := [.int x2]) (mem' := mem) hS hC 1 rfl ?_
    have kp31 : pm_Ex ro m_X9_smudged 119 [.ref 0, .int x1, .int x2, .int x3, .int x4, .int x5, d6] [.int (if ¬ x2 = 0 then x4 else x3 : Int32)] mem Q := by
      exact ex_ret (v := (some (.int (if ¬ x2 = 0 then x4 else x3 : Int32)))) hS hC rfl rfl rfl k
    refine ex_br (P := ¬ x2 = 0) (a := 117) (b := 113) (ls' := [.ref 0, .int x1, .int x2, .int x3, .int x4, .int x5, d6]) (st' := []) (mem' := mem) hS hC rfl (fun h => ?_) (fun h => ?_)
    · have kp31a : pm_Ex ro m_X9_smudged 119 [.ref 0, .int x1, .int x2, .int x3, .int x4, .int x5, d6] [.int x4] mem Q := pm_phi1 (f := fun z0 => pm_Ex ro m_X9_smudged 119 [.ref 0, .int x1, .int x2, .int x3, .int x4, .int x5, d6] [.int z0] mem Q) (if_pos (h)) kp31
      refine ex_many (pc' := 119) (ls' := [.ref 0, .int x1, .int x2, .int x3, .int x4, .int x5, d6]) (st' := [.int x4]) (mem' := mem) hS hC 1 rfl ?_
      exact kp31a
    · have kp31b : pm_Ex ro m_X9_smudged 119 [.ref 0, .int x1, .int x2, .int x3, .int x4, .int x5, d6] [.int x3] mem Q := pm_phi1 (f := fun z0 => pm_Ex ro m_X9_smudged 119 [.ref 0, .int x1, .int x2, .int x3, .int x4, .int x5, d6] [.int z0] mem Q) (if_neg (h)) kp31
      refine ex_many (pc' := 119) (ls' := [.ref 0, .int x1, .int x2, .int x3, .int x4, .int x5, d6]) (st' := [.int x3]) (mem' := mem) hS hC 2 rfl ?_
      exact kp31b
  · replace k := k.2 (h)
    refine ex_many (pc' := 66) (ls' := [.ref 0, .int x1, .int x2, .int x3, .int x4, .int x5, d6]) (st' := [.int x5, .ref 6, .ref 1]) (mem' := mem) hS hC 5 rfl ?_
    refine ex_call (y' := m_X7_paidOf) (rest := [.ref 1]) (ent := [.ref 6, .int x5]) hS hC rfl rfl rfl rfl rfl rfl ?_
    exact k

set_option maxRecDepth 20000 in
theorem bk_X9_smudged_69 {ro : pm_RO} {Q : Option Value → pm_M → Prop} {mem : pm_M} {x1 x2 x3 x4 x5 s0 : Int32} {d6 : Value} (k : pm_Ex ro m_X2_splitUp 0 [.ref 1, .int s0, .ref 32, .null, .null, .null] [] mem (fun v m => pm_Ex ro m_X9_smudged 76 [.ref 0, .int x1, .int x2, .int x3, .int x4, .int x5, d6] (v.toList ++ []) m Q)) : pm_Ex ro m_X9_smudged 69 [.ref 0, .int x1, .int x2, .int x3, .int x4, .int x5, d6] [.int s0, .ref 1] mem Q := by
  have hS : pm_sig[m_X9_smudged]? = some _ := rfl
  have hC : pm_cod[m_X9_smudged]? = some _ := rfl
  refine ex_many (pc' := 73) (ls' := [.ref 0, .int x1, .int x2, .int x3, .int x4, .int x5, d6]) (st' := [.ref 32, .int s0, .ref 1]) (mem' := mem) hS hC 2 rfl ?_
  refine ex_call (y' := m_X2_splitUp) (rest := []) (ent := [.ref 1, .int s0, .ref 32, .null, .null, .null]) hS hC rfl rfl rfl rfl rfl rfl ?_
  exact k

set_option maxRecDepth 20000 in
theorem bk_X9_smudged_76 {ro : pm_RO} {Q : Option Value → pm_M → Prop} {mem : pm_M} {x1 x2 x3 x4 x5 s0 : Int32} {d6 : Value} (k : (pm_inb x1 4 = true) ∧ (pm_Ex ro m_X6_fits 0 [.ref (24 + 2 * x1.toNatClampNeg), .ref 32, .int s0, .null] [] mem (fun v m => pm_Ex ro m_X9_smudged 93 [.ref 0, .int x1, .int x2, .int x3, .int x4, .int x5, .int s0] (v.toList ++ []) m Q))) : pm_Ex ro m_X9_smudged 76 [.ref 0, .int x1, .int x2, .int x3, .int x4, .int x5, d6] [.int s0] mem Q := by
  have hS : pm_sig[m_X9_smudged]? = some _ := rfl
  have hC : pm_cod[m_X9_smudged]? = some _ := rfl
  refine ex_many (pc' := 83) (ls' := [.ref 0, .int x1, .int x2, .int x3, .int x4, .int x5, .int s0]) (st' := [.int x1, .ref 23]) (mem' := mem) hS hC 4 rfl ?_
  have hg_x1 := k.1
  refine ex_aalS hS hC rfl hg_x1 ?_
  replace k := k.2
  refine ex_many (pc' := 90) (ls' := [.ref 0, .int x1, .int x2, .int x3, .int x4, .int x5, .int s0]) (st' := [.int s0, .ref 32, .ref (24 + 2 * x1.toNatClampNeg)]) (mem' := mem) hS hC 3 rfl ?_
  refine ex_call (y' := m_X6_fits) (rest := []) (ent := [.ref (24 + 2 * x1.toNatClampNeg), .ref 32, .int s0, .null]) hS hC rfl rfl rfl (pm_calS rfl rfl rfl (pm_shl (pm_shN hg_x1))) rfl rfl ?_
  exact k

set_option maxRecDepth 20000 in
theorem bk_X9_smudged_93 {ro : pm_RO} {Q : Option Value → pm_M → Prop} {mem : pm_M} {x1 x2 x3 x4 x5 x6 s0 : Int32} (k : pm_Ex ro m_X9_smudged 51 [.ref 0, .int x1, .int x2, .int (if s0 = 0 then x3 else x3 + 1 : Int32), .int (if s0 = 0 then x4 else x5 : Int32), .int (x5 + (-1)), .int x6] [] mem Q) : pm_Ex ro m_X9_smudged 93 [.ref 0, .int x1, .int x2, .int x3, .int x4, .int x5, .int x6] [.int s0] mem Q := by
  have hS : pm_sig[m_X9_smudged]? = some _ := rfl
  have hC : pm_cod[m_X9_smudged]? = some _ := rfl
  have kp32 : pm_Ex ro m_X9_smudged 103 [.ref 0, .int x1, .int x2, .int (if s0 = 0 then x3 else x3 + 1 : Int32), .int (if s0 = 0 then x4 else x5 : Int32), .int x5, .int x6] [] mem Q := by
    refine ex_many (pc' := 51) (ls' := [.ref 0, .int x1, .int x2, .int (if s0 = 0 then x3 else x3 + 1 : Int32), .int (if s0 = 0 then x4 else x5 : Int32), .int (x5 + (-1)), .int x6]) (st' := []) (mem' := mem) hS hC 2 rfl ?_
    exact k
  refine ex_br (P := s0 = 0) (a := 103) (b := 96) (ls' := [.ref 0, .int x1, .int x2, .int x3, .int x4, .int x5, .int x6]) (st' := []) (mem' := mem) hS hC rfl (fun h => ?_) (fun h => ?_)
  · have kp32a : pm_Ex ro m_X9_smudged 103 [.ref 0, .int x1, .int x2, .int x3, .int x4, .int x5, .int x6] [] mem Q := pm_phi2 (f := fun z0 z1 => pm_Ex ro m_X9_smudged 103 [.ref 0, .int x1, .int x2, .int z0, .int z1, .int x5, .int x6] [] mem Q) (if_pos (h)) (if_pos (h)) kp32
    exact kp32a
  · have kp32b : pm_Ex ro m_X9_smudged 103 [.ref 0, .int x1, .int x2, .int (x3 + 1), .int x5, .int x5, .int x6] [] mem Q := pm_phi2 (f := fun z0 z1 => pm_Ex ro m_X9_smudged 103 [.ref 0, .int x1, .int x2, .int z0, .int z1, .int x5, .int x6] [] mem Q) (if_neg (h)) (if_neg (h)) kp32
    refine ex_many (pc' := 103) (ls' := [.ref 0, .int x1, .int x2, .int (x3 + 1), .int x5, .int x5, .int x6]) (st' := []) (mem' := mem) hS hC 3 rfl ?_
    exact kp32b

set_option maxRecDepth 20000 in
theorem bk_X9_game_0 {ro : pm_RO} {Q : Option Value → pm_M → Prop} {mem : pm_M} {a1 a2 a3 a4 : Int32} (k : (¬ (a1 < (0 : Int32)) ∧ (¬ ((200 : Int32) < a1)) → (¬ (a3 < (1 : Int32)) ∧ (¬ ((200 : Int32) < a3)) → (¬ (a4 < (0 : Int32)) ∧ (¬ ((1 : Int32) < a4)) → (a2 = 0 → Q (some (.int (-2))) mem) ∧ (¬ (a2 = 0) → ((a2 &&& (-1023)) = 0 → (a1 < a3 → pm_Ex ro m_X8_playDownTo 0 [.ref 20, .int a1, .int a2, .int a3, .null] [] mem (fun v m => pm_Ex ro m_X9_game 92 [.ref 0, .int a1, .int a2, .int a3, .int a4, .int (zb (¬ (a4 < (0 : Int32)) ∧ (¬ ((1 : Int32) < a4))))] (v.toList ++ []) m Q)) ∧ (¬ (a1 < a3) → (¬ a4 = 0 → Q (some (.int 0)) mem) ∧ (¬ (¬ a4 = 0) → pm_Ex ro m_X2_paidFor 0 [.ref 1, .int a1, .null, .null, .null, .null, .null, .null] [] mem (fun v m => pm_Ex ro m_X9_game 77 [.ref 0, .int a1, .int a2, .int a3, .int a4, .int (zb (¬ (a4 < (0 : Int32)) ∧ (¬ ((1 : Int32) < a4))))] (v.toList ++ []) m Q)))) ∧ (¬ ((a2 &&& (-1023)) = 0) → Q (some (.int (-2))) mem))) ∧ (¬ (¬ (a4 < (0 : Int32)) ∧ (¬ ((1 : Int32) < a4))) → Q (some (.int (-2))) mem)) ∧ (¬ (¬ (a3 < (1 : Int32)) ∧ (¬ ((200 : Int32) < a3))) → (0 = 0 → Q (some (.int (-2))) mem) ∧ (¬ (0 = 0) → (a2 = 0 → Q (some (.int (-2))) mem) ∧ (¬ (a2 = 0) → ((a2 &&& (-1023)) = 0 → (a1 < a3 → pm_Ex ro m_X8_playDownTo 0 [.ref 20, .int a1, .int a2, .int a3, .null] [] mem (fun v m => pm_Ex ro m_X9_game 92 [.ref 0, .int a1, .int a2, .int a3, .int a4, .int 0] (v.toList ++ []) m Q)) ∧ (¬ (a1 < a3) → (¬ a4 = 0 → Q (some (.int 0)) mem) ∧ (¬ (¬ a4 = 0) → pm_Ex ro m_X2_paidFor 0 [.ref 1, .int a1, .null, .null, .null, .null, .null, .null] [] mem (fun v m => pm_Ex ro m_X9_game 77 [.ref 0, .int a1, .int a2, .int a3, .int a4, .int 0] (v.toList ++ []) m Q)))) ∧ (¬ ((a2 &&& (-1023)) = 0) → Q (some (.int (-2))) mem))))) ∧ (¬ (¬ (a1 < (0 : Int32)) ∧ (¬ ((200 : Int32) < a1))) → (0 = 0 → Q (some (.int (-2))) mem) ∧ (¬ (0 = 0) → (a2 = 0 → Q (some (.int (-2))) mem) ∧ (¬ (a2 = 0) → ((a2 &&& (-1023)) = 0 → (a1 < a3 → pm_Ex ro m_X8_playDownTo 0 [.ref 20, .int a1, .int a2, .int a3, .null] [] mem (fun v m => pm_Ex ro m_X9_game 92 [.ref 0, .int a1, .int a2, .int a3, .int a4, .int 0] (v.toList ++ []) m Q)) ∧ (¬ (a1 < a3) → (¬ a4 = 0 → Q (some (.int 0)) mem) ∧ (¬ (¬ a4 = 0) → pm_Ex ro m_X2_paidFor 0 [.ref 1, .int a1, .null, .null, .null, .null, .null, .null] [] mem (fun v m => pm_Ex ro m_X9_game 77 [.ref 0, .int a1, .int a2, .int a3, .int a4, .int 0] (v.toList ++ []) m Q)))) ∧ (¬ ((a2 &&& (-1023)) = 0) → Q (some (.int (-2))) mem))))) : pm_Ex ro m_X9_game 0 [.ref 0, .int a1, .int a2, .int a3, .int a4, .null] [] mem Q := by
  have hS : pm_sig[m_X9_game]? = some _ := rfl
  have hC : pm_cod[m_X9_game]? = some _ := rfl
  refine ex_many (pc' := 5) (ls' := [.ref 0, .int a1, .int a2, .int a3, .int a4, .null]) (st' := [.int 200, .int 0, .int a1]) (mem' := mem) hS hC 3 rfl ?_
  refine ex_call (y' := m_X9_within) (rest := []) (ent := [.int a1, .int 0, .int 200]) hS hC rfl rfl rfl rfl rfl rfl ?_
  refine bk_X9_within_0 ?_
  show pm_Ex ro m_X9_game 8 [.ref 0, .int a1, .int a2, .int a3, .int a4, .null] [.int (zb (¬ (a1 < (0 : Int32)) ∧ (¬ ((200 : Int32) < a1))))] mem Q
  refine ex_br (P := (zb (¬ (a1 < (0 : Int32)) ∧ (¬ ((200 : Int32) < a1)))) = 0) (a := 36) (b := 11) (ls' := [.ref 0, .int a1, .int a2, .int a3, .int a4, .null]) (st' := []) (mem' := mem) hS hC rfl (fun h => ?_) (fun h => ?_)
  · replace k := k.2 (zb0 h)
    refine ex_many (pc' := 41) (ls' := [.ref 0, .int a1, .int a2, .int a3, .int a4, .int 0]) (st' := [.int 0]) (mem' := mem) hS hC 3 rfl ?_
    refine ex_br (P := 0 = 0) (a := 56) (b := 44) (ls' := [.ref 0, .int a1, .int a2, .int a3, .int a4, .int 0]) (st' := []) (mem' := mem) hS hC rfl (fun h => ?_) (fun h => ?_)
    · replace k := k.1 (h)
      refine ex_many (pc' := 58) (ls' := [.ref 0, .int a1, .int a2, .int a3, .int a4, .int 0]) (st' := [.int (-2)]) (mem' := mem) hS hC 1 rfl ?_
      exact ex_ret (v := (some (.int (-2)))) hS hC rfl rfl rfl k
    · replace k := k.2 (h)
      refine ex_many (pc' := 45) (ls' := [.ref 0, .int a1, .int a2, .int a3, .int a4, .int 0]) (st' := [.int a2]) (mem' := mem) hS hC 1 rfl ?_
      refine ex_br (P := a2 = 0) (a := 56) (b := 48) (ls' := [.ref 0, .int a1, .int a2, .int a3, .int a4, .int 0]) (st' := []) (mem' := mem) hS hC rfl (fun h => ?_) (fun h => ?_)
      · replace k := k.1 (h)
        refine ex_many (pc' := 58) (ls' := [.ref 0, .int a1, .int a2, .int a3, .int a4, .int 0]) (st' := [.int (-2)]) (mem' := mem) hS hC 1 rfl ?_
        exact ex_ret (v := (some (.int (-2)))) hS hC rfl rfl rfl k
      · replace k := k.2 (h)
        refine ex_many (pc' := 53) (ls' := [.ref 0, .int a1, .int a2, .int a3, .int a4, .int 0]) (st' := [.int (a2 &&& (-1023))]) (mem' := mem) hS hC 3 rfl ?_
        refine ex_br (P := (a2 &&& (-1023)) = 0) (a := 59) (b := 56) (ls' := [.ref 0, .int a1, .int a2, .int a3, .int a4, .int 0]) (st' := []) (mem' := mem) hS hC rfl (fun h => ?_) (fun h => ?_)
        · replace k := k.1 (h)
          refine ex_many (pc' := 61) (ls' := [.ref 0, .int a1, .int a2, .int a3, .int a4, .int 0]) (st' := [.int a3, .int a1]) (mem' := mem) hS hC 2 rfl ?_
          refine ex_br (P := a1 < a3) (a := 82) (b := 64) (ls' := [.ref 0, .int a1, .int a2, .int a3, .int a4, .int 0]) (st' := []) (mem' := mem) hS hC rfl (fun h => ?_) (fun h => ?_)
          · replace k := k.1 (h)
            refine ex_many (pc' := 89) (ls' := [.ref 0, .int a1, .int a2, .int a3, .int a4, .int 0]) (st' := [.int a3, .int a2, .int a1, .ref 20]) (mem' := mem) hS hC 5 rfl ?_
            refine ex_call (y' := m_X8_playDownTo) (rest := []) (ent := [.ref 20, .int a1, .int a2, .int a3, .null]) hS hC rfl rfl rfl rfl rfl rfl ?_
            exact k
          · replace k := k.2 (h)
            refine ex_many (pc' := 66) (ls' := [.ref 0, .int a1, .int a2, .int a3, .int a4, .int 0]) (st' := [.int a4]) (mem' := mem) hS hC 1 rfl ?_
            refine ex_br (P := ¬ a4 = 0) (a := 80) (b := 69) (ls' := [.ref 0, .int a1, .int a2, .int a3, .int a4, .int 0]) (st' := []) (mem' := mem) hS hC rfl (fun h => ?_) (fun h => ?_)
            · replace k := k.1 (h)
              refine ex_many (pc' := 81) (ls' := [.ref 0, .int a1, .int a2, .int a3, .int a4, .int 0]) (st' := [.int 0]) (mem' := mem) hS hC 1 rfl ?_
              exact ex_ret (v := (some (.int 0))) hS hC rfl rfl rfl k
            · replace k := k.2 (h)
              refine ex_many (pc' := 74) (ls' := [.ref 0, .int a1, .int a2, .int a3, .int a4, .int 0]) (st' := [.int a1, .ref 1]) (mem' := mem) hS hC 3 rfl ?_
              refine ex_call (y' := m_X2_paidFor) (rest := []) (ent := [.ref 1, .int a1, .null, .null, .null, .null, .null, .null]) hS hC rfl rfl rfl rfl rfl rfl ?_
              exact k
        · replace k := k.2 (h)
          refine ex_many (pc' := 58) (ls' := [.ref 0, .int a1, .int a2, .int a3, .int a4, .int 0]) (st' := [.int (-2)]) (mem' := mem) hS hC 1 rfl ?_
          exact ex_ret (v := (some (.int (-2)))) hS hC rfl rfl rfl k
  · replace k := k.1 (zb1 h)
    refine ex_many (pc' := 16) (ls' := [.ref 0, .int a1, .int a2, .int a3, .int a4, .null]) (st' := [.int 200, .int 1, .int a3]) (mem' := mem) hS hC 3 rfl ?_
    refine ex_call (y' := m_X9_within) (rest := []) (ent := [.int a3, .int 1, .int 200]) hS hC rfl rfl rfl rfl rfl rfl ?_
    refine bk_X9_within_0 ?_
    show pm_Ex ro m_X9_game 19 [.ref 0, .int a1, .int a2, .int a3, .int a4, .null] [.int (zb (¬ (a3 < (1 : Int32)) ∧ (¬ ((200 : Int32) < a3))))] mem Q
    refine ex_br (P := (zb (¬ (a3 < (1 : Int32)) ∧ (¬ ((200 : Int32) < a3)))) = 0) (a := 36) (b := 22) (ls' := [.ref 0, .int a1, .int a2, .int a3, .int a4, .null]) (st' := []) (mem' := mem) hS hC rfl (fun h => ?_) (fun h => ?_)
    · replace k := k.2 (zb0 h)
      refine ex_many (pc' := 41) (ls' := [.ref 0, .int a1, .int a2, .int a3, .int a4, .int 0]) (st' := [.int 0]) (mem' := mem) hS hC 3 rfl ?_
      refine ex_br (P := 0 = 0) (a := 56) (b := 44) (ls' := [.ref 0, .int a1, .int a2, .int a3, .int a4, .int 0]) (st' := []) (mem' := mem) hS hC rfl (fun h => ?_) (fun h => ?_)
      · replace k := k.1 (h)
        refine ex_many (pc' := 58) (ls' := [.ref 0, .int a1, .int a2, .int a3, .int a4, .int 0]) (st' := [.int (-2)]) (mem' := mem) hS hC 1 rfl ?_
        exact ex_ret (v := (some (.int (-2)))) hS hC rfl rfl rfl k
      · replace k := k.2 (h)
        refine ex_many (pc' := 45) (ls' := [.ref 0, .int a1, .int a2, .int a3, .int a4, .int 0]) (st' := [.int a2]) (mem' := mem) hS hC 1 rfl ?_
        refine ex_br (P := a2 = 0) (a := 56) (b := 48) (ls' := [.ref 0, .int a1, .int a2, .int a3, .int a4, .int 0]) (st' := []) (mem' := mem) hS hC rfl (fun h => ?_) (fun h => ?_)
        · replace k := k.1 (h)
          refine ex_many (pc' := 58) (ls' := [.ref 0, .int a1, .int a2, .int a3, .int a4, .int 0]) (st' := [.int (-2)]) (mem' := mem) hS hC 1 rfl ?_
          exact ex_ret (v := (some (.int (-2)))) hS hC rfl rfl rfl k
        · replace k := k.2 (h)
          refine ex_many (pc' := 53) (ls' := [.ref 0, .int a1, .int a2, .int a3, .int a4, .int 0]) (st' := [.int (a2 &&& (-1023))]) (mem' := mem) hS hC 3 rfl ?_
          refine ex_br (P := (a2 &&& (-1023)) = 0) (a := 59) (b := 56) (ls' := [.ref 0, .int a1, .int a2, .int a3, .int a4, .int 0]) (st' := []) (mem' := mem) hS hC rfl (fun h => ?_) (fun h => ?_)
          · replace k := k.1 (h)
            refine ex_many (pc' := 61) (ls' := [.ref 0, .int a1, .int a2, .int a3, .int a4, .int 0]) (st' := [.int a3, .int a1]) (mem' := mem) hS hC 2 rfl ?_
            refine ex_br (P := a1 < a3) (a := 82) (b := 64) (ls' := [.ref 0, .int a1, .int a2, .int a3, .int a4, .int 0]) (st' := []) (mem' := mem) hS hC rfl (fun h => ?_) (fun h => ?_)
            · replace k := k.1 (h)
              refine ex_many (pc' := 89) (ls' := [.ref 0, .int a1, .int a2, .int a3, .int a4, .int 0]) (st' := [.int a3, .int a2, .int a1, .ref 20]) (mem' := mem) hS hC 5 rfl ?_
              refine ex_call (y' := m_X8_playDownTo) (rest := []) (ent := [.ref 20, .int a1, .int a2, .int a3, .null]) hS hC rfl rfl rfl rfl rfl rfl ?_
              exact k
            · replace k := k.2 (h)
              refine ex_many (pc' := 66) (ls' := [.ref 0, .int a1, .int a2, .int a3, .int a4, .int 0]) (st' := [.int a4]) (mem' := mem) hS hC 1 rfl ?_
              refine ex_br (P := ¬ a4 = 0) (a := 80) (b := 69) (ls' := [.ref 0, .int a1, .int a2, .int a3, .int a4, .int 0]) (st' := []) (mem' := mem) hS hC rfl (fun h => ?_) (fun h => ?_)
              · replace k := k.1 (h)
                refine ex_many (pc' := 81) (ls' := [.ref 0, .int a1, .int a2, .int a3, .int a4, .int 0]) (st' := [.int 0]) (mem' := mem) hS hC 1 rfl ?_
                exact ex_ret (v := (some (.int 0))) hS hC rfl rfl rfl k
              · replace k := k.2 (h)
                refine ex_many (pc' := 74) (ls' := [.ref 0, .int a1, .int a2, .int a3, .int a4, .int 0]) (st' := [.int a1, .ref 1]) (mem' := mem) hS hC 3 rfl ?_
                refine ex_call (y' := m_X2_paidFor) (rest := []) (ent := [.ref 1, .int a1, .null, .null, .null, .null, .null, .null]) hS hC rfl rfl rfl rfl rfl rfl ?_
                exact k
          · replace k := k.2 (h)
            refine ex_many (pc' := 58) (ls' := [.ref 0, .int a1, .int a2, .int a3, .int a4, .int 0]) (st' := [.int (-2)]) (mem' := mem) hS hC 1 rfl ?_
            exact ex_ret (v := (some (.int (-2)))) hS hC rfl rfl rfl k
    · replace k := k.1 (zb1 h)
      refine ex_many (pc' := 26) (ls' := [.ref 0, .int a1, .int a2, .int a3, .int a4, .null]) (st' := [.int 1, .int 0, .int a4]) (mem' := mem) hS hC 3 rfl ?_
      refine ex_call (y' := m_X9_within) (rest := []) (ent := [.int a4, .int 0, .int 1]) hS hC rfl rfl rfl rfl rfl rfl ?_
      refine bk_X9_within_0 ?_
      show pm_Ex ro m_X9_game 29 [.ref 0, .int a1, .int a2, .int a3, .int a4, .null] [.int (zb (¬ (a4 < (0 : Int32)) ∧ (¬ ((1 : Int32) < a4))))] mem Q
      have kp33 : pm_Ex ro m_X9_game 37 [.ref 0, .int a1, .int a2, .int a3, .int a4, .null] [.int (zb (¬ (a4 < (0 : Int32)) ∧ (¬ ((1 : Int32) < a4))))] mem Q := by
        refine ex_many (pc' := 41) (ls' := [.ref 0, .int a1, .int a2, .int a3, .int a4, .int (zb (¬ (a4 < (0 : Int32)) ∧ (¬ ((1 : Int32) < a4))))]) (st' := [.int (zb (¬ (a4 < (0 : Int32)) ∧ (¬ ((1 : Int32) < a4))))]) (mem' := mem) hS hC 2 rfl ?_
        refine ex_br (P := (zb (¬ (a4 < (0 : Int32)) ∧ (¬ ((1 : Int32) < a4)))) = 0) (a := 56) (b := 44) (ls' := [.ref 0, .int a1, .int a2, .int a3, .int a4, .int (zb (¬ (a4 < (0 : Int32)) ∧ (¬ ((1 : Int32) < a4))))]) (st' := []) (mem' := mem) hS hC rfl (fun h => ?_) (fun h => ?_)
        · replace k := k.2 (zb0 h)
          refine ex_many (pc' := 58) (ls' := [.ref 0, .int a1, .int a2, .int a3, .int a4, .int (zb (¬ (a4 < (0 : Int32)) ∧ (¬ ((1 : Int32) < a4))))]) (st' := [.int (-2)]) (mem' := mem) hS hC 1 rfl ?_
          exact ex_ret (v := (some (.int (-2)))) hS hC rfl rfl rfl k
        · replace k := k.1 (zb1 h)
          refine ex_many (pc' := 45) (ls' := [.ref 0, .int a1, .int a2, .int a3, .int a4, .int (zb (¬ (a4 < (0 : Int32)) ∧ (¬ ((1 : Int32) < a4))))]) (st' := [.int a2]) (mem' := mem) hS hC 1 rfl ?_
          refine ex_br (P := a2 = 0) (a := 56) (b := 48) (ls' := [.ref 0, .int a1, .int a2, .int a3, .int a4, .int (zb (¬ (a4 < (0 : Int32)) ∧ (¬ ((1 : Int32) < a4))))]) (st' := []) (mem' := mem) hS hC rfl (fun h => ?_) (fun h => ?_)
          · replace k := k.1 (h)
            refine ex_many (pc' := 58) (ls' := [.ref 0, .int a1, .int a2, .int a3, .int a4, .int (zb (¬ (a4 < (0 : Int32)) ∧ (¬ ((1 : Int32) < a4))))]) (st' := [.int (-2)]) (mem' := mem) hS hC 1 rfl ?_
            exact ex_ret (v := (some (.int (-2)))) hS hC rfl rfl rfl k
          · replace k := k.2 (h)
            refine ex_many (pc' := 53) (ls' := [.ref 0, .int a1, .int a2, .int a3, .int a4, .int (zb (¬ (a4 < (0 : Int32)) ∧ (¬ ((1 : Int32) < a4))))]) (st' := [.int (a2 &&& (-1023))]) (mem' := mem) hS hC 3 rfl ?_
            refine ex_br (P := (a2 &&& (-1023)) = 0) (a := 59) (b := 56) (ls' := [.ref 0, .int a1, .int a2, .int a3, .int a4, .int (zb (¬ (a4 < (0 : Int32)) ∧ (¬ ((1 : Int32) < a4))))]) (st' := []) (mem' := mem) hS hC rfl (fun h => ?_) (fun h => ?_)
            · replace k := k.1 (h)
              refine ex_many (pc' := 61) (ls' := [.ref 0, .int a1, .int a2, .int a3, .int a4, .int (zb (¬ (a4 < (0 : Int32)) ∧ (¬ ((1 : Int32) < a4))))]) (st' := [.int a3, .int a1]) (mem' := mem) hS hC 2 rfl ?_
              refine ex_br (P := a1 < a3) (a := 82) (b := 64) (ls' := [.ref 0, .int a1, .int a2, .int a3, .int a4, .int (zb (¬ (a4 < (0 : Int32)) ∧ (¬ ((1 : Int32) < a4))))]) (st' := []) (mem' := mem) hS hC rfl (fun h => ?_) (fun h => ?_)
              · replace k := k.1 (h)
                refine ex_many (pc' := 89) (ls' := [.ref 0, .int a1, .int a2, .int a3, .int a4, .int (zb (¬ (a4 < (0 : Int32)) ∧ (¬ ((1 : Int32) < a4))))]) (st' := [.int a3, .int a2, .int a1, .ref 20]) (mem' := mem) hS hC 5 rfl ?_
                refine ex_call (y' := m_X8_playDownTo) (rest := []) (ent := [.ref 20, .int a1, .int a2, .int a3, .null]) hS hC rfl rfl rfl rfl rfl rfl ?_
                exact k
              · replace k := k.2 (h)
                refine ex_many (pc' := 66) (ls' := [.ref 0, .int a1, .int a2, .int a3, .int a4, .int (zb (¬ (a4 < (0 : Int32)) ∧ (¬ ((1 : Int32) < a4))))]) (st' := [.int a4]) (mem' := mem) hS hC 1 rfl ?_
                refine ex_br (P := ¬ a4 = 0) (a := 80) (b := 69) (ls' := [.ref 0, .int a1, .int a2, .int a3, .int a4, .int (zb (¬ (a4 < (0 : Int32)) ∧ (¬ ((1 : Int32) < a4))))]) (st' := []) (mem' := mem) hS hC rfl (fun h => ?_) (fun h => ?_)
                · replace k := k.1 (h)
                  refine ex_many (pc' := 81) (ls' := [.ref 0, .int a1, .int a2, .int a3, .int a4, .int (zb (¬ (a4 < (0 : Int32)) ∧ (¬ ((1 : Int32) < a4))))]) (st' := [.int 0]) (mem' := mem) hS hC 1 rfl ?_
                  exact ex_ret (v := (some (.int 0))) hS hC rfl rfl rfl k
                · replace k := k.2 (h)
                  refine ex_many (pc' := 74) (ls' := [.ref 0, .int a1, .int a2, .int a3, .int a4, .int (zb (¬ (a4 < (0 : Int32)) ∧ (¬ ((1 : Int32) < a4))))]) (st' := [.int a1, .ref 1]) (mem' := mem) hS hC 3 rfl ?_
                  refine ex_call (y' := m_X2_paidFor) (rest := []) (ent := [.ref 1, .int a1, .null, .null, .null, .null, .null, .null]) hS hC rfl rfl rfl rfl rfl rfl ?_
                  exact k
            · replace k := k.2 (h)
              refine ex_many (pc' := 58) (ls' := [.ref 0, .int a1, .int a2, .int a3, .int a4, .int (zb (¬ (a4 < (0 : Int32)) ∧ (¬ ((1 : Int32) < a4))))]) (st' := [.int (-2)]) (mem' := mem) hS hC 1 rfl ?_
              exact ex_ret (v := (some (.int (-2)))) hS hC rfl rfl rfl k
      refine ex_br (P := (zb (¬ (a4 < (0 : Int32)) ∧ (¬ ((1 : Int32) < a4)))) = 0) (a := 36) (b := 32) (ls' := [.ref 0, .int a1, .int a2, .int a3, .int a4, .null]) (st' := []) (mem' := mem) hS hC rfl (fun h => ?_) (fun h => ?_)
      · have kp33a : pm_Ex ro m_X9_game 37 [.ref 0, .int a1, .int a2, .int a3, .int a4, .null] [.int 0] mem Q := pm_phi1 (f := fun z0 => pm_Ex ro m_X9_game 37 [.ref 0, .int a1, .int a2, .int a3, .int a4, .null] [.int z0] mem Q) (zb_neg (zb0 h)) kp33
        refine ex_many (pc' := 37) (ls' := [.ref 0, .int a1, .int a2, .int a3, .int a4, .null]) (st' := [.int 0]) (mem' := mem) hS hC 1 rfl ?_
        exact kp33a
      · have kp33b : pm_Ex ro m_X9_game 37 [.ref 0, .int a1, .int a2, .int a3, .int a4, .null] [.int 1] mem Q := pm_phi1 (f := fun z0 => pm_Ex ro m_X9_game 37 [.ref 0, .int a1, .int a2, .int a3, .int a4, .null] [.int z0] mem Q) (zb_pos (zb1 h)) kp33
        refine ex_many (pc' := 37) (ls' := [.ref 0, .int a1, .int a2, .int a3, .int a4, .null]) (st' := [.int 1]) (mem' := mem) hS hC 2 rfl ?_
        exact kp33b

set_option maxRecDepth 20000 in
theorem bk_X9_game_77 {ro : pm_RO} {Q : Option Value → pm_M → Prop} {mem : pm_M} {x1 x2 x3 x4 x5 s0 : Int32} (k : Q (some (.int s0)) mem) : pm_Ex ro m_X9_game 77 [.ref 0, .int x1, .int x2, .int x3, .int x4, .int x5] [.int s0] mem Q := by
  have hS : pm_sig[m_X9_game]? = some _ := rfl
  have hC : pm_cod[m_X9_game]? = some _ := rfl
  refine ex_many (pc' := 81) (ls' := [.ref 0, .int x1, .int x2, .int x3, .int x4, .int x5]) (st' := [.int s0]) (mem' := mem) hS hC 1 rfl ?_
  exact ex_ret (v := (some (.int s0))) hS hC rfl rfl rfl k

set_option maxRecDepth 20000 in
theorem bk_X9_game_92 {ro : pm_RO} {Q : Option Value → pm_M → Prop} {mem : pm_M} {x1 x2 x3 x4 x5 : Int32} (k : (¬ x4 = 0 → pm_Ex ro m_X8_firstAmount 0 [.ref 20, .int x1, .int x2] [] mem (fun v m => pm_Ex ro m_X9_game 117 [.ref 0, .int x1, .int x2, .int x3, .int x4, .int x5] (v.toList ++ []) m Q)) ∧ (¬ (¬ x4 = 0) → (pm_inb x1 209 = true) ∧ (Q (some (.int (mem 21 x1.toNatClampNeg))) mem))) : pm_Ex ro m_X9_game 92 [.ref 0, .int x1, .int x2, .int x3, .int x4, .int x5] [] mem Q := by
  have hS : pm_sig[m_X9_game]? = some _ := rfl
  have hC : pm_cod[m_X9_game]? = some _ := rfl
  refine ex_many (pc' := 94) (ls' := [.ref 0, .int x1, .int x2, .int x3, .int x4, .int x5]) (st' := [.int x4]) (mem' := mem) hS hC 1 rfl ?_
  refine ex_br (P := ¬ x4 = 0) (a := 108) (b := 97) (ls' := [.ref 0, .int x1, .int x2, .int x3, .int x4, .int x5]) (st' := []) (mem' := mem) hS hC rfl (fun h => ?_) (fun h => ?_)
  · replace k := k.1 (h)
    refine ex_many (pc' := 114) (ls' := [.ref 0, .int x1, .int x2, .int x3, .int x4, .int x5]) (st' := [.int x2, .int x1, .ref 20]) (mem' := mem) hS hC 4 rfl ?_
    refine ex_call (y' := m_X8_firstAmount) (rest := []) (ent := [.ref 20, .int x1, .int x2]) hS hC rfl rfl rfl rfl rfl rfl ?_
    exact k
  · replace k := k.2 (h)
    refine ex_many (pc' := 102) (ls' := [.ref 0, .int x1, .int x2, .int x3, .int x4, .int x5]) (st' := [.int x1, .ref 20]) (mem' := mem) hS hC 3 rfl ?_
    refine ex_call (y' := m_X8_outcomeFrom) (rest := []) (ent := [.ref 20, .int x1]) hS hC rfl rfl rfl rfl rfl rfl ?_
    refine bk_X8_outcomeFrom_0 ⟨k.1, ?_⟩
    replace k := k.2
    show pm_Ex ro m_X9_game 105 [.ref 0, .int x1, .int x2, .int x3, .int x4, .int x5] [.int (mem 21 x1.toNatClampNeg)] mem Q
    refine ex_many (pc' := 117) (ls' := [.ref 0, .int x1, .int x2, .int x3, .int x4, .int x5]) (st' := [.int (mem 21 x1.toNatClampNeg)]) (mem' := mem) hS hC 1 rfl ?_
    exact ex_ret (v := (some (.int (mem 21 x1.toNatClampNeg)))) hS hC rfl rfl rfl k

set_option maxRecDepth 20000 in
theorem bk_X9_game_117 {ro : pm_RO} {Q : Option Value → pm_M → Prop} {mem : pm_M} {x1 x2 x3 x4 x5 s0 : Int32} (k : Q (some (.int s0)) mem) : pm_Ex ro m_X9_game 117 [.ref 0, .int x1, .int x2, .int x3, .int x4, .int x5] [.int s0] mem Q := by
  have hS : pm_sig[m_X9_game]? = some _ := rfl
  have hC : pm_cod[m_X9_game]? = some _ := rfl
  exact ex_ret (v := (some (.int s0))) hS hC rfl rfl rfl k

set_option maxRecDepth 20000 in
theorem bk_X9_sheet_0 {ro : pm_RO} {Q : Option Value → pm_M → Prop} {mem : pm_M} {a1 a2 a3 : Int32} (k : (¬ (a1 < (0 : Int32)) ∧ (¬ ((3 : Int32) < a1)) → (¬ (a2 < (0 : Int32)) ∧ (¬ ((2 : Int32) < a2)) → (a3 ≤ 60 → (0 ≤ a3 → (pm_inb a1 4 = true) ∧ (pm_Ex ro m_X6_renew 0 [.ref (24 + 2 * a1.toNatClampNeg), .int a2, .int a3] [] mem (fun v m => pm_Ex ro m_X9_sheet 44 [.ref 0, .int a1, .int a2, .int a3] (v.toList ++ []) m Q))) ∧ (¬ (0 ≤ a3) → Q (some (.int ((-10) - (5 : Int32)))) (pm_up mem 0 10 (5 : Int32)))) ∧ (¬ (a3 ≤ 60) → Q (some (.int (-2))) mem)) ∧ (¬ (¬ (a2 < (0 : Int32)) ∧ (¬ ((2 : Int32) < a2))) → Q (some (.int (-2))) mem)) ∧ (¬ (¬ (a1 < (0 : Int32)) ∧ (¬ ((3 : Int32) < a1))) → Q (some (.int (-2))) mem)) : pm_Ex ro m_X9_sheet 0 [.ref 0, .int a1, .int a2, .int a3] [] mem Q := by
  have hS : pm_sig[m_X9_sheet]? = some _ := rfl
  have hC : pm_cod[m_X9_sheet]? = some _ := rfl
  refine ex_many (pc' := 1) (ls' := [.ref 0, .int a1, .int a2, .int a3]) (st' := [.int a1]) (mem' := mem) hS hC 1 rfl ?_
  refine ex_call (y' := m_X9_isSheet) (rest := []) (ent := [.int a1]) hS hC rfl rfl rfl rfl rfl rfl ?_
  refine bk_X9_isSheet_0 ?_
  show pm_Ex ro m_X9_sheet 4 [.ref 0, .int a1, .int a2, .int a3] [.int (zb (¬ (a1 < (0 : Int32)) ∧ (¬ ((3 : Int32) < a1))))] mem Q
  refine ex_br (P := (zb (¬ (a1 < (0 : Int32)) ∧ (¬ ((3 : Int32) < a1)))) = 0) (a := 20) (b := 7) (ls' := [.ref 0, .int a1, .int a2, .int a3]) (st' := []) (mem' := mem) hS hC rfl (fun h => ?_) (fun h => ?_)
  · replace k := k.2 (zb0 h)
    refine ex_many (pc' := 22) (ls' := [.ref 0, .int a1, .int a2, .int a3]) (st' := [.int (-2)]) (mem' := mem) hS hC 1 rfl ?_
    exact ex_ret (v := (some (.int (-2)))) hS hC rfl rfl rfl k
  · replace k := k.1 (zb1 h)
    refine ex_many (pc' := 8) (ls' := [.ref 0, .int a1, .int a2, .int a3]) (st' := [.int a2]) (mem' := mem) hS hC 1 rfl ?_
    refine ex_call (y' := m_X9_isForm) (rest := []) (ent := [.int a2]) hS hC rfl rfl rfl rfl rfl rfl ?_
    refine bk_X9_isForm_0 ?_
    show pm_Ex ro m_X9_sheet 11 [.ref 0, .int a1, .int a2, .int a3] [.int (zb (¬ (a2 < (0 : Int32)) ∧ (¬ ((2 : Int32) < a2))))] mem Q
    refine ex_br (P := (zb (¬ (a2 < (0 : Int32)) ∧ (¬ ((2 : Int32) < a2)))) = 0) (a := 20) (b := 14) (ls' := [.ref 0, .int a1, .int a2, .int a3]) (st' := []) (mem' := mem) hS hC rfl (fun h => ?_) (fun h => ?_)
    · replace k := k.2 (zb0 h)
      refine ex_many (pc' := 22) (ls' := [.ref 0, .int a1, .int a2, .int a3]) (st' := [.int (-2)]) (mem' := mem) hS hC 1 rfl ?_
      exact ex_ret (v := (some (.int (-2)))) hS hC rfl rfl rfl k
    · replace k := k.1 (zb1 h)
      refine ex_many (pc' := 17) (ls' := [.ref 0, .int a1, .int a2, .int a3]) (st' := [.int 60, .int a3]) (mem' := mem) hS hC 2 rfl ?_
      refine ex_br (P := a3 ≤ 60) (a := 23) (b := 20) (ls' := [.ref 0, .int a1, .int a2, .int a3]) (st' := []) (mem' := mem) hS hC rfl (fun h => ?_) (fun h => ?_)
      · replace k := k.1 (h)
        refine ex_many (pc' := 24) (ls' := [.ref 0, .int a1, .int a2, .int a3]) (st' := [.int a3]) (mem' := mem) hS hC 1 rfl ?_
        refine ex_br (P := 0 ≤ a3) (a := 33) (b := 27) (ls' := [.ref 0, .int a1, .int a2, .int a3]) (st' := []) (mem' := mem) hS hC rfl (fun h => ?_) (fun h => ?_)
        · replace k := k.1 (h)
          refine ex_many (pc' := 38) (ls' := [.ref 0, .int a1, .int a2, .int a3]) (st' := [.int a1, .ref 23]) (mem' := mem) hS hC 3 rfl ?_
          have hg_a1 := k.1
          refine ex_aalS hS hC rfl hg_a1 ?_
          replace k := k.2
          refine ex_many (pc' := 41) (ls' := [.ref 0, .int a1, .int a2, .int a3]) (st' := [.int a3, .int a2, .ref (24 + 2 * a1.toNatClampNeg)]) (mem' := mem) hS hC 2 rfl ?_
          refine ex_call (y' := m_X6_renew) (rest := []) (ent := [.ref (24 + 2 * a1.toNatClampNeg), .int a2, .int a3]) hS hC rfl rfl rfl (pm_calS rfl rfl rfl (pm_shl (pm_shN hg_a1))) rfl rfl ?_
          exact k
        · replace k := k.2 (h)
          refine ex_many (pc' := 29) (ls' := [.ref 0, .int a1, .int a2, .int a3]) (st' := [.int 5, .ref 0]) (mem' := mem) hS hC 2 rfl ?_
          refine ex_call (y' := m_X9_finding) (rest := []) (ent := [.ref 0, .int 5]) hS hC rfl rfl rfl rfl rfl rfl ?_
          refine bk_X9_finding_0 ?_
          show pm_Ex ro m_X9_sheet 32 [.ref 0, .int a1, .int a2, .int a3] [.int ((-10) - (5 : Int32))] (pm_up mem 0 10 (5 : Int32)) Q
          exact ex_ret (v := (some (.int ((-10) - (5 : Int32))))) hS hC rfl rfl rfl k
      · replace k := k.2 (h)
        refine ex_many (pc' := 22) (ls' := [.ref 0, .int a1, .int a2, .int a3]) (st' := [.int (-2)]) (mem' := mem) hS hC 1 rfl ?_
        exact ex_ret (v := (some (.int (-2)))) hS hC rfl rfl rfl k

set_option maxRecDepth 20000 in
theorem bk_X9_sheet_44 {ro : pm_RO} {Q : Option Value → pm_M → Prop} {mem : pm_M} {x1 x2 x3 : Int32} (k : Q (some (.int x3)) mem) : pm_Ex ro m_X9_sheet 44 [.ref 0, .int x1, .int x2, .int x3] [] mem Q := by
  have hS : pm_sig[m_X9_sheet]? = some _ := rfl
  have hC : pm_cod[m_X9_sheet]? = some _ := rfl
  refine ex_many (pc' := 45) (ls' := [.ref 0, .int x1, .int x2, .int x3]) (st' := [.int x3]) (mem' := mem) hS hC 1 rfl ?_
  exact ex_ret (v := (some (.int x3))) hS hC rfl rfl rfl k

set_option maxRecDepth 20000 in
theorem bk_X9_lose_0 {ro : pm_RO} {Q : Option Value → pm_M → Prop} {mem : pm_M} {a1 : Int32} (k : (¬ (a1 < (0 : Int32)) ∧ (¬ ((3 : Int32) < a1)) → (pm_inb a1 4 = true) ∧ ((¬ (¬ (mem (24 + 2 * a1.toNatClampNeg) 1) = (-1)) → Q (some (.int ((-10) - (1 : Int32)))) (pm_up mem 0 10 (1 : Int32))) ∧ (¬ (¬ (¬ (mem (24 + 2 * a1.toNatClampNeg) 1) = (-1))) → (pm_inb a1 4 = true) ∧ ((pm_inb a1 4 = true) ∧ (Q (some (.int (mem (24 + 2 * a1.toNatClampNeg) 2))) (pm_up (pm_up mem (24 + 2 * a1.toNatClampNeg) 1 (-1)) (24 + 2 * a1.toNatClampNeg) 2 0)))))) ∧ (¬ (¬ (a1 < (0 : Int32)) ∧ (¬ ((3 : Int32) < a1))) → Q (some (.int (-2))) mem)) : pm_Ex ro m_X9_lose 0 [.ref 0, .int a1, .null] [] mem Q := by
  have hS : pm_sig[m_X9_lose]? = some _ := rfl
  have hC : pm_cod[m_X9_lose]? = some _ := rfl
  refine ex_many (pc' := 1) (ls' := [.ref 0, .int a1, .null]) (st' := [.int a1]) (mem' := mem) hS hC 1 rfl ?_
  refine ex_call (y' := m_X9_isSheet) (rest := []) (ent := [.int a1]) hS hC rfl rfl rfl rfl rfl rfl ?_
  refine bk_X9_isSheet_0 ?_
  show pm_Ex ro m_X9_lose 4 [.ref 0, .int a1, .null] [.int (zb (¬ (a1 < (0 : Int32)) ∧ (¬ ((3 : Int32) < a1))))] mem Q
  refine ex_br (P := ¬ (zb (¬ (a1 < (0 : Int32)) ∧ (¬ ((3 : Int32) < a1)))) = 0) (a := 10) (b := 7) (ls' := [.ref 0, .int a1, .null]) (st' := []) (mem' := mem) hS hC rfl (fun h => ?_) (fun h => ?_)
  · replace k := k.1 (zb1 h)
    refine ex_many (pc' := 15) (ls' := [.ref 0, .int a1, .null]) (st' := [.int a1, .ref 23]) (mem' := mem) hS hC 3 rfl ?_
    have hg_a1 := k.1
    refine ex_aalS hS hC rfl hg_a1 ?_
    replace k := k.2
    refine ex_call (y' := m_X6_isLost) (rest := []) (ent := [.ref (24 + 2 * a1.toNatClampNeg)]) hS hC rfl rfl rfl (pm_calS rfl rfl rfl (pm_shl (pm_shN hg_a1))) rfl rfl ?_
    refine bk_X6_isLost_0 (pm_shN hg_a1) ?_
    show pm_Ex ro m_X9_lose 19 [.ref 0, .int a1, .null] [.int (zb (¬ (¬ (mem (24 + 2 * a1.toNatClampNeg) 1) = (-1))))] mem Q
    refine ex_br (P := (zb (¬ (¬ (mem (24 + 2 * a1.toNatClampNeg) 1) = (-1)))) = 0) (a := 28) (b := 22) (ls' := [.ref 0, .int a1, .null]) (st' := []) (mem' := mem) hS hC rfl (fun h => ?_) (fun h => ?_)
    · replace k := k.2 (zb0 h)
      refine ex_many (pc' := 33) (ls' := [.ref 0, .int a1, .null]) (st' := [.int a1, .ref 23]) (mem' := mem) hS hC 3 rfl ?_
      have hg_a1 := k.1
      refine ex_aalS hS hC rfl hg_a1 ?_
      replace k := k.2
      refine ex_call (y' := m_X6_size) (rest := []) (ent := [.ref (24 + 2 * a1.toNatClampNeg)]) hS hC rfl rfl rfl (pm_calS rfl rfl rfl (pm_shl (pm_shN hg_a1))) rfl rfl ?_
      refine bk_X6_size_0 (pm_shN hg_a1) ?_
      show pm_Ex ro m_X9_lose 37 [.ref 0, .int a1, .null] [.int (mem (24 + 2 * a1.toNatClampNeg) 2)] mem Q
      refine ex_many (pc' := 43) (ls' := [.ref 0, .int a1, .int (mem (24 + 2 * a1.toNatClampNeg) 2)]) (st' := [.int a1, .ref 23]) (mem' := mem) hS hC 4 rfl ?_
      have hg_a1 := k.1
      refine ex_aalS hS hC rfl hg_a1 ?_
      replace k := k.2
      refine ex_call (y' := m_X6_giveUp) (rest := []) (ent := [.ref (24 + 2 * a1.toNatClampNeg)]) hS hC rfl rfl rfl (pm_calS rfl rfl rfl (pm_shl (pm_shN hg_a1))) rfl rfl ?_
      refine bk_X6_giveUp_0 (pm_shN hg_a1) ?_
      show pm_Ex ro m_X9_lose 47 [.ref 0, .int a1, .int (mem (24 + 2 * a1.toNatClampNeg) 2)] [] (pm_up (pm_up mem (24 + 2 * a1.toNatClampNeg) 1 (-1)) (24 + 2 * a1.toNatClampNeg) 2 0) Q
      refine ex_many (pc' := 48) (ls' := [.ref 0, .int a1, .int (mem (24 + 2 * a1.toNatClampNeg) 2)]) (st' := [.int (mem (24 + 2 * a1.toNatClampNeg) 2)]) (mem' := pm_up (pm_up mem (24 + 2 * a1.toNatClampNeg) 1 (-1)) (24 + 2 * a1.toNatClampNeg) 2 0) hS hC 1 rfl ?_
      exact ex_ret (v := (some (.int (mem (24 + 2 * a1.toNatClampNeg) 2)))) hS hC rfl rfl rfl k
    · replace k := k.1 (zb1 h)
      refine ex_many (pc' := 24) (ls' := [.ref 0, .int a1, .null]) (st' := [.int 1, .ref 0]) (mem' := mem) hS hC 2 rfl ?_
      refine ex_call (y' := m_X9_finding) (rest := []) (ent := [.ref 0, .int 1]) hS hC rfl rfl rfl rfl rfl rfl ?_
      refine bk_X9_finding_0 ?_
      show pm_Ex ro m_X9_lose 27 [.ref 0, .int a1, .null] [.int ((-10) - (1 : Int32))] (pm_up mem 0 10 (1 : Int32)) Q
      exact ex_ret (v := (some (.int ((-10) - (1 : Int32))))) hS hC rfl rfl rfl k
  · replace k := k.2 (zb0n h)
    refine ex_many (pc' := 9) (ls' := [.ref 0, .int a1, .null]) (st' := [.int (-2)]) (mem' := mem) hS hC 1 rfl ?_
    exact ex_ret (v := (some (.int (-2)))) hS hC rfl rfl rfl k

set_option maxRecDepth 20000 in
theorem bk_X9_lay_0 {ro : pm_RO} {Q : Option Value → pm_M → Prop} {mem : pm_M} {a1 a2 a3 a4 : Int32} (k : (¬ (a1 < (0 : Int32)) ∧ (¬ ((3 : Int32) < a1)) → (¬ (a2 < (0 : Int32)) ∧ (¬ ((2 : Int32) < a2)) → (pm_inb a1 4 = true) ∧ (pm_Ex ro m_X6_findingAt 0 [.ref (24 + 2 * a1.toNatClampNeg), .int a2, .int a3] [] mem (fun v m => pm_Ex ro m_X9_lay 28 [.ref 0, .int a1, .int a2, .int a3, .int a4, .null] (v.toList ++ []) m Q))) ∧ (¬ (¬ (a2 < (0 : Int32)) ∧ (¬ ((2 : Int32) < a2))) → Q (some (.int (-2))) mem)) ∧ (¬ (¬ (a1 < (0 : Int32)) ∧ (¬ ((3 : Int32) < a1))) → Q (some (.int (-2))) mem)) : pm_Ex ro m_X9_lay 0 [.ref 0, .int a1, .int a2, .int a3, .int a4, .null] [] mem Q := by
  have hS : pm_sig[m_X9_lay]? = some _ := rfl
  have hC : pm_cod[m_X9_lay]? = some _ := rfl
  refine ex_many (pc' := 1) (ls' := [.ref 0, .int a1, .int a2, .int a3, .int a4, .null]) (st' := [.int a1]) (mem' := mem) hS hC 1 rfl ?_
  refine ex_call (y' := m_X9_isSheet) (rest := []) (ent := [.int a1]) hS hC rfl rfl rfl rfl rfl rfl ?_
  refine bk_X9_isSheet_0 ?_
  show pm_Ex ro m_X9_lay 4 [.ref 0, .int a1, .int a2, .int a3, .int a4, .null] [.int (zb (¬ (a1 < (0 : Int32)) ∧ (¬ ((3 : Int32) < a1))))] mem Q
  refine ex_br (P := (zb (¬ (a1 < (0 : Int32)) ∧ (¬ ((3 : Int32) < a1)))) = 0) (a := 14) (b := 7) (ls' := [.ref 0, .int a1, .int a2, .int a3, .int a4, .null]) (st' := []) (mem' := mem) hS hC rfl (fun h => ?_) (fun h => ?_)
  · replace k := k.2 (zb0 h)
    refine ex_many (pc' := 16) (ls' := [.ref 0, .int a1, .int a2, .int a3, .int a4, .null]) (st' := [.int (-2)]) (mem' := mem) hS hC 1 rfl ?_
    exact ex_ret (v := (some (.int (-2)))) hS hC rfl rfl rfl k
  · replace k := k.1 (zb1 h)
    refine ex_many (pc' := 8) (ls' := [.ref 0, .int a1, .int a2, .int a3, .int a4, .null]) (st' := [.int a2]) (mem' := mem) hS hC 1 rfl ?_
    refine ex_call (y' := m_X9_isForm) (rest := []) (ent := [.int a2]) hS hC rfl rfl rfl rfl rfl rfl ?_
    refine bk_X9_isForm_0 ?_
    show pm_Ex ro m_X9_lay 11 [.ref 0, .int a1, .int a2, .int a3, .int a4, .null] [.int (zb (¬ (a2 < (0 : Int32)) ∧ (¬ ((2 : Int32) < a2))))] mem Q
    refine ex_br (P := ¬ (zb (¬ (a2 < (0 : Int32)) ∧ (¬ ((2 : Int32) < a2)))) = 0) (a := 17) (b := 14) (ls' := [.ref 0, .int a1, .int a2, .int a3, .int a4, .null]) (st' := []) (mem' := mem) hS hC rfl (fun h => ?_) (fun h => ?_)
    · replace k := k.1 (zb1 h)
      refine ex_many (pc' := 22) (ls' := [.ref 0, .int a1, .int a2, .int a3, .int a4, .null]) (st' := [.int a1, .ref 23]) (mem' := mem) hS hC 3 rfl ?_
      have hg_a1 := k.1
      refine ex_aalS hS hC rfl hg_a1 ?_
      replace k := k.2
      refine ex_many (pc' := 25) (ls' := [.ref 0, .int a1, .int a2, .int a3, .int a4, .null]) (st' := [.int a3, .int a2, .ref (24 + 2 * a1.toNatClampNeg)]) (mem' := mem) hS hC 2 rfl ?_
      refine ex_call (y' := m_X6_findingAt) (rest := []) (ent := [.ref (24 + 2 * a1.toNatClampNeg), .int a2, .int a3]) hS hC rfl rfl rfl (pm_calS rfl rfl rfl (pm_shl (pm_shN hg_a1))) rfl rfl ?_
      exact k
    · replace k := k.2 (zb0n h)
      refine ex_many (pc' := 16) (ls' := [.ref 0, .int a1, .int a2, .int a3, .int a4, .null]) (st' := [.int (-2)]) (mem' := mem) hS hC 1 rfl ?_
      exact ex_ret (v := (some (.int (-2)))) hS hC rfl rfl rfl k

set_option maxRecDepth 20000 in
theorem bk_X9_lay_28 {ro : pm_RO} {Q : Option Value → pm_M → Prop} {mem : pm_M} {x1 x2 x3 x4 s0 : Int32} (k : (s0 = 0 → (pm_inb x1 4 = true) ∧ (pm_Ex ro m_X6_put 0 [.ref (24 + 2 * x1.toNatClampNeg), .int x3, .int x4] [] mem (fun v m => pm_Ex ro m_X9_lay 54 [.ref 0, .int x1, .int x2, .int x3, .int x4, .int s0] (v.toList ++ []) m Q))) ∧ (¬ (s0 = 0) → Q (some (.int ((-10) - s0))) (pm_up mem 0 10 s0))) : pm_Ex ro m_X9_lay 28 [.ref 0, .int x1, .int x2, .int x3, .int x4, .null] [.int s0] mem Q := by
  have hS : pm_sig[m_X9_lay]? = some _ := rfl
  have hC : pm_cod[m_X9_lay]? = some _ := rfl
  refine ex_many (pc' := 32) (ls' := [.ref 0, .int x1, .int x2, .int x3, .int x4, .int s0]) (st' := [.int s0]) (mem' := mem) hS hC 2 rfl ?_
  refine ex_br (P := s0 = 0) (a := 42) (b := 35) (ls' := [.ref 0, .int x1, .int x2, .int x3, .int x4, .int s0]) (st' := []) (mem' := mem) hS hC rfl (fun h => ?_) (fun h => ?_)
  · replace k := k.1 (h)
    refine ex_many (pc' := 47) (ls' := [.ref 0, .int x1, .int x2, .int x3, .int x4, .int s0]) (st' := [.int x1, .ref 23]) (mem' := mem) hS hC 3 rfl ?_
    have hg_x1 := k.1
    refine ex_aalS hS hC rfl hg_x1 ?_
    replace k := k.2
    refine ex_many (pc' := 51) (ls' := [.ref 0, .int x1, .int x2, .int x3, .int x4, .int s0]) (st' := [.int x4, .int x3, .ref (24 + 2 * x1.toNatClampNeg)]) (mem' := mem) hS hC 2 rfl ?_
    refine ex_call (y' := m_X6_put) (rest := []) (ent := [.ref (24 + 2 * x1.toNatClampNeg), .int x3, .int x4]) hS hC rfl rfl rfl (pm_calS rfl rfl rfl (pm_shl (pm_shN hg_x1))) rfl rfl ?_
    exact k
  · replace k := k.2 (h)
    refine ex_many (pc' := 38) (ls' := [.ref 0, .int x1, .int x2, .int x3, .int x4, .int s0]) (st' := [.int s0, .ref 0]) (mem' := mem) hS hC 2 rfl ?_
    refine ex_call (y' := m_X9_finding) (rest := []) (ent := [.ref 0, .int s0]) hS hC rfl rfl rfl rfl rfl rfl ?_
    refine bk_X9_finding_0 ?_
    show pm_Ex ro m_X9_lay 41 [.ref 0, .int x1, .int x2, .int x3, .int x4, .int s0] [.int ((-10) - s0)] (pm_up mem 0 10 s0) Q
    exact ex_ret (v := (some (.int ((-10) - s0)))) hS hC rfl rfl rfl k

set_option maxRecDepth 20000 in
theorem bk_X9_lay_54 {ro : pm_RO} {Q : Option Value → pm_M → Prop} {mem : pm_M} {x1 x2 x3 x4 x5 : Int32} (k : Q (some (.int 1)) mem) : pm_Ex ro m_X9_lay 54 [.ref 0, .int x1, .int x2, .int x3, .int x4, .int x5] [] mem Q := by
  have hS : pm_sig[m_X9_lay]? = some _ := rfl
  have hC : pm_cod[m_X9_lay]? = some _ := rfl
  refine ex_many (pc' := 55) (ls' := [.ref 0, .int x1, .int x2, .int x3, .int x4, .int x5]) (st' := [.int 1]) (mem' := mem) hS hC 1 rfl ?_
  exact ex_ret (v := (some (.int 1))) hS hC rfl rfl rfl k

set_option maxRecDepth 20000 in
theorem bk_X9_get_0 {ro : pm_RO} {Q : Option Value → pm_M → Prop} {mem : pm_M} {a1 a2 a3 : Int32} (k : (¬ (a1 < (0 : Int32)) ∧ (¬ ((3 : Int32) < a1)) → (¬ (a2 < (0 : Int32)) ∧ (¬ ((2 : Int32) < a2)) → (pm_inb a1 4 = true) ∧ (pm_Ex ro m_X6_findingAt 0 [.ref (24 + 2 * a1.toNatClampNeg), .int a2, .int a3] [] mem (fun v m => pm_Ex ro m_X9_get 29 [.ref 0, .int a1, .int a2, .int a3, .null] (v.toList ++ []) m Q))) ∧ (¬ (¬ (a2 < (0 : Int32)) ∧ (¬ ((2 : Int32) < a2))) → Q (some (.int (-2147483648))) mem)) ∧ (¬ (¬ (a1 < (0 : Int32)) ∧ (¬ ((3 : Int32) < a1))) → Q (some (.int (-2147483648))) mem)) : pm_Ex ro m_X9_get 0 [.ref 0, .int a1, .int a2, .int a3, .null] [] mem Q := by
  have hS : pm_sig[m_X9_get]? = some _ := rfl
  have hC : pm_cod[m_X9_get]? = some _ := rfl
  refine ex_many (pc' := 1) (ls' := [.ref 0, .int a1, .int a2, .int a3, .null]) (st' := [.int a1]) (mem' := mem) hS hC 1 rfl ?_
  refine ex_call (y' := m_X9_isSheet) (rest := []) (ent := [.int a1]) hS hC rfl rfl rfl rfl rfl rfl ?_
  refine bk_X9_isSheet_0 ?_
  show pm_Ex ro m_X9_get 4 [.ref 0, .int a1, .int a2, .int a3, .null] [.int (zb (¬ (a1 < (0 : Int32)) ∧ (¬ ((3 : Int32) < a1))))] mem Q
  refine ex_br (P := (zb (¬ (a1 < (0 : Int32)) ∧ (¬ ((3 : Int32) < a1)))) = 0) (a := 14) (b := 7) (ls' := [.ref 0, .int a1, .int a2, .int a3, .null]) (st' := []) (mem' := mem) hS hC rfl (fun h => ?_) (fun h => ?_)
  · replace k := k.2 (zb0 h)
    refine ex_many (pc' := 17) (ls' := [.ref 0, .int a1, .int a2, .int a3, .null]) (st' := [.int (-2147483648)]) (mem' := mem) hS hC 1 rfl ?_
    exact ex_ret (v := (some (.int (-2147483648)))) hS hC rfl rfl rfl k
  · replace k := k.1 (zb1 h)
    refine ex_many (pc' := 8) (ls' := [.ref 0, .int a1, .int a2, .int a3, .null]) (st' := [.int a2]) (mem' := mem) hS hC 1 rfl ?_
    refine ex_call (y' := m_X9_isForm) (rest := []) (ent := [.int a2]) hS hC rfl rfl rfl rfl rfl rfl ?_
    refine bk_X9_isForm_0 ?_
    show pm_Ex ro m_X9_get 11 [.ref 0, .int a1, .int a2, .int a3, .null] [.int (zb (¬ (a2 < (0 : Int32)) ∧ (¬ ((2 : Int32) < a2))))] mem Q
    refine ex_br (P := ¬ (zb (¬ (a2 < (0 : Int32)) ∧ (¬ ((2 : Int32) < a2)))) = 0) (a := 18) (b := 14) (ls' := [.ref 0, .int a1, .int a2, .int a3, .null]) (st' := []) (mem' := mem) hS hC rfl (fun h => ?_) (fun h => ?_)
    · replace k := k.1 (zb1 h)
      refine ex_many (pc' := 23) (ls' := [.ref 0, .int a1, .int a2, .int a3, .null]) (st' := [.int a1, .ref 23]) (mem' := mem) hS hC 3 rfl ?_
      have hg_a1 := k.1
      refine ex_aalS hS hC rfl hg_a1 ?_
      replace k := k.2
      refine ex_many (pc' := 26) (ls' := [.ref 0, .int a1, .int a2, .int a3, .null]) (st' := [.int a3, .int a2, .ref (24 + 2 * a1.toNatClampNeg)]) (mem' := mem) hS hC 2 rfl ?_
      refine ex_call (y' := m_X6_findingAt) (rest := []) (ent := [.ref (24 + 2 * a1.toNatClampNeg), .int a2, .int a3]) hS hC rfl rfl rfl (pm_calS rfl rfl rfl (pm_shl (pm_shN hg_a1))) rfl rfl ?_
      exact k
    · replace k := k.2 (zb0n h)
      refine ex_many (pc' := 17) (ls' := [.ref 0, .int a1, .int a2, .int a3, .null]) (st' := [.int (-2147483648)]) (mem' := mem) hS hC 1 rfl ?_
      exact ex_ret (v := (some (.int (-2147483648)))) hS hC rfl rfl rfl k

set_option maxRecDepth 20000 in
theorem bk_X9_get_29 {ro : pm_RO} {Q : Option Value → pm_M → Prop} {mem : pm_M} {x1 x2 x3 s0 : Int32} (k : (s0 = 0 → (pm_inb x1 4 = true) ∧ ((pm_inb x3 60 = true) ∧ (Q (some (.int (mem ((24 + 2 * x1.toNatClampNeg) + 1) x3.toNatClampNeg))) mem))) ∧ (¬ (s0 = 0) → Q (some (.int (-2147483648))) (pm_up mem 0 10 s0))) : pm_Ex ro m_X9_get 29 [.ref 0, .int x1, .int x2, .int x3, .null] [.int s0] mem Q := by
  have hS : pm_sig[m_X9_get]? = some _ := rfl
  have hC : pm_cod[m_X9_get]? = some _ := rfl
  refine ex_many (pc' := 33) (ls' := [.ref 0, .int x1, .int x2, .int x3, .int s0]) (st' := [.int s0]) (mem' := mem) hS hC 2 rfl ?_
  refine ex_br (P := s0 = 0) (a := 47) (b := 36) (ls' := [.ref 0, .int x1, .int x2, .int x3, .int s0]) (st' := []) (mem' := mem) hS hC rfl (fun h => ?_) (fun h => ?_)
  · replace k := k.1 (h)
    refine ex_many (pc' := 52) (ls' := [.ref 0, .int x1, .int x2, .int x3, .int s0]) (st' := [.int x1, .ref 23]) (mem' := mem) hS hC 3 rfl ?_
    have hg_x1 := k.1
    refine ex_aalS hS hC rfl hg_x1 ?_
    replace k := k.2
    refine ex_many (pc' := 54) (ls' := [.ref 0, .int x1, .int x2, .int x3, .int s0]) (st' := [.int x3, .ref (24 + 2 * x1.toNatClampNeg)]) (mem' := mem) hS hC 1 rfl ?_
    refine ex_call (y' := m_X6_itemAt) (rest := []) (ent := [.ref (24 + 2 * x1.toNatClampNeg), .int x3]) hS hC rfl rfl rfl (pm_calS rfl rfl rfl (pm_shl (pm_shN hg_x1))) rfl rfl ?_
    refine bk_X6_itemAt_0 (pm_shN hg_x1) ⟨k.1, ?_⟩
    replace k := k.2
    show pm_Ex ro m_X9_get 57 [.ref 0, .int x1, .int x2, .int x3, .int s0] [.int (mem ((24 + 2 * x1.toNatClampNeg) + 1) x3.toNatClampNeg)] mem Q
    exact ex_ret (v := (some (.int (mem ((24 + 2 * x1.toNatClampNeg) + 1) x3.toNatClampNeg)))) hS hC rfl rfl rfl k
  · replace k := k.2 (h)
    refine ex_many (pc' := 39) (ls' := [.ref 0, .int x1, .int x2, .int x3, .int s0]) (st' := [.int s0, .ref 0]) (mem' := mem) hS hC 2 rfl ?_
    refine ex_call (y' := m_X9_finding) (rest := []) (ent := [.ref 0, .int s0]) hS hC rfl rfl rfl rfl rfl rfl ?_
    refine bk_X9_finding_0 ?_
    show pm_Ex ro m_X9_get 42 [.ref 0, .int x1, .int x2, .int x3, .int s0] [.int ((-10) - s0)] (pm_up mem 0 10 s0) Q
    refine ex_many (pc' := 46) (ls' := [.ref 0, .int x1, .int x2, .int x3, .int s0]) (st' := [.int (-2147483648)]) (mem' := pm_up mem 0 10 s0) hS hC 2 rfl ?_
    exact ex_ret (v := (some (.int (-2147483648)))) hS hC rfl rfl rfl k

set_option maxRecDepth 20000 in
theorem bk_X9_copy_0 {ro : pm_RO} {Q : Option Value → pm_M → Prop} {mem : pm_M} {a1 a2 a3 a4 a5 : Int32} (k : (¬ (a1 < (0 : Int32)) ∧ (¬ ((3 : Int32) < a1)) → (¬ (a3 < (0 : Int32)) ∧ (¬ ((3 : Int32) < a3)) → (pm_inb a1 4 = true) ∧ ((pm_inb a3 4 = true) ∧ ((¬ (¬ (mem (24 + 2 * a1.toNatClampNeg) 1) = (-1)) → Q (some (.int ((-10) - (1 : Int32)))) (pm_up mem 0 10 (1 : Int32))) ∧ (¬ (¬ (¬ (mem (24 + 2 * a1.toNatClampNeg) 1) = (-1))) → (¬ (¬ (mem (24 + 2 * a3.toNatClampNeg) 1) = (-1)) → Q (some (.int ((-10) - (1 : Int32)))) (pm_up mem 0 10 (1 : Int32))) ∧ (¬ (¬ (¬ (mem (24 + 2 * a3.toNatClampNeg) 1) = (-1))) → (¬ (¬ (mem (24 + 2 * a1.toNatClampNeg) 1) = (mem (24 + 2 * a3.toNatClampNeg) 1)) → pm_Ex ro m_X6_hasRun 0 [.ref (24 + 2 * a1.toNatClampNeg), .int a2, .int a5] [] mem (fun v m => pm_Ex ro m_X9_copy 79 [.ref 0, .int a1, .int a2, .int a3, .int a4, .int a5, .ref (24 + 2 * a1.toNatClampNeg), .ref (24 + 2 * a3.toNatClampNeg)] (v.toList ++ []) m Q)) ∧ (¬ (¬ (¬ (mem (24 + 2 * a1.toNatClampNeg) 1) = (mem (24 + 2 * a3.toNatClampNeg) 1))) → Q (some (.int ((-10) - (4 : Int32)))) (pm_up mem 0 10 (4 : Int32)))))))) ∧ (¬ (¬ (a3 < (0 : Int32)) ∧ (¬ ((3 : Int32) < a3))) → Q (some (.int (-2))) mem)) ∧ (¬ (¬ (a1 < (0 : Int32)) ∧ (¬ ((3 : Int32) < a1))) → Q (some (.int (-2))) mem)) : pm_Ex ro m_X9_copy 0 [.ref 0, .int a1, .int a2, .int a3, .int a4, .int a5, .null, .null] [] mem Q := by
  have hS : pm_sig[m_X9_copy]? = some _ := rfl
  have hC : pm_cod[m_X9_copy]? = some _ := rfl
  refine ex_many (pc' := 1) (ls' := [.ref 0, .int a1, .int a2, .int a3, .int a4, .int a5, .null, .null]) (st' := [.int a1]) (mem' := mem) hS hC 1 rfl ?_
  refine ex_call (y' := m_X9_isSheet) (rest := []) (ent := [.int a1]) hS hC rfl rfl rfl rfl rfl rfl ?_
  refine bk_X9_isSheet_0 ?_
  show pm_Ex ro m_X9_copy 4 [.ref 0, .int a1, .int a2, .int a3, .int a4, .int a5, .null, .null] [.int (zb (¬ (a1 < (0 : Int32)) ∧ (¬ ((3 : Int32) < a1))))] mem Q
  refine ex_br (P := (zb (¬ (a1 < (0 : Int32)) ∧ (¬ ((3 : Int32) < a1)))) = 0) (a := 14) (b := 7) (ls' := [.ref 0, .int a1, .int a2, .int a3, .int a4, .int a5, .null, .null]) (st' := []) (mem' := mem) hS hC rfl (fun h => ?_) (fun h => ?_)
  · replace k := k.2 (zb0 h)
    refine ex_many (pc' := 16) (ls' := [.ref 0, .int a1, .int a2, .int a3, .int a4, .int a5, .null, .null]) (st' := [.int (-2)]) (mem' := mem) hS hC 1 rfl ?_
    exact ex_ret (v := (some (.int (-2)))) hS hC rfl rfl rfl k
  · replace k := k.1 (zb1 h)
    refine ex_many (pc' := 8) (ls' := [.ref 0, .int a1, .int a2, .int a3, .int a4, .int a5, .null, .null]) (st' := [.int a3]) (mem' := mem) hS hC 1 rfl ?_
    refine ex_call (y' := m_X9_isSheet) (rest := []) (ent := [.int a3]) hS hC rfl rfl rfl rfl rfl rfl ?_
    refine bk_X9_isSheet_0 ?_
    show pm_Ex ro m_X9_copy 11 [.ref 0, .int a1, .int a2, .int a3, .int a4, .int a5, .null, .null] [.int (zb (¬ (a3 < (0 : Int32)) ∧ (¬ ((3 : Int32) < a3))))] mem Q
    refine ex_br (P := ¬ (zb (¬ (a3 < (0 : Int32)) ∧ (¬ ((3 : Int32) < a3)))) = 0) (a := 17) (b := 14) (ls' := [.ref 0, .int a1, .int a2, .int a3, .int a4, .int a5, .null, .null]) (st' := []) (mem' := mem) hS hC rfl (fun h => ?_) (fun h => ?_)
    · replace k := k.1 (zb1 h)
      refine ex_many (pc' := 22) (ls' := [.ref 0, .int a1, .int a2, .int a3, .int a4, .int a5, .null, .null]) (st' := [.int a1, .ref 23]) (mem' := mem) hS hC 3 rfl ?_
      have hg_a1 := k.1
      refine ex_aalS hS hC rfl hg_a1 ?_
      replace k := k.2
      refine ex_many (pc' := 30) (ls' := [.ref 0, .int a1, .int a2, .int a3, .int a4, .int a5, .ref (24 + 2 * a1.toNatClampNeg), .null]) (st' := [.int a3, .ref 23]) (mem' := mem) hS hC 4 rfl ?_
      have hg_a3 := k.1
      refine ex_aalS hS hC rfl hg_a3 ?_
      replace k := k.2
      refine ex_many (pc' := 35) (ls' := [.ref 0, .int a1, .int a2, .int a3, .int a4, .int a5, .ref (24 + 2 * a1.toNatClampNeg), .ref (24 + 2 * a3.toNatClampNeg)]) (st' := [.ref (24 + 2 * a1.toNatClampNeg)]) (mem' := mem) hS hC 2 rfl ?_
      refine ex_call (y' := m_X6_isLost) (rest := []) (ent := [.ref (24 + 2 * a1.toNatClampNeg)]) hS hC rfl rfl rfl (pm_calS rfl rfl rfl (pm_shl (pm_shN hg_a1))) rfl rfl ?_
      refine bk_X6_isLost_0 (pm_shN hg_a1) ?_
      show pm_Ex ro m_X9_copy 38 [.ref 0, .int a1, .int a2, .int a3, .int a4, .int a5, .ref (24 + 2 * a1.toNatClampNeg), .ref (24 + 2 * a3.toNatClampNeg)] [.int (zb (¬ (¬ (mem (24 + 2 * a1.toNatClampNeg) 1) = (-1))))] mem Q
      refine ex_br (P := ¬ (zb (¬ (¬ (mem (24 + 2 * a1.toNatClampNeg) 1) = (-1)))) = 0) (a := 49) (b := 41) (ls' := [.ref 0, .int a1, .int a2, .int a3, .int a4, .int a5, .ref (24 + 2 * a1.toNatClampNeg), .ref (24 + 2 * a3.toNatClampNeg)]) (st' := []) (mem' := mem) hS hC rfl (fun h => ?_) (fun h => ?_)
      · replace k := k.1 (zb1 h)
        refine ex_many (pc' := 51) (ls' := [.ref 0, .int a1, .int a2, .int a3, .int a4, .int a5, .ref (24 + 2 * a1.toNatClampNeg), .ref (24 + 2 * a3.toNatClampNeg)]) (st' := [.int 1, .ref 0]) (mem' := mem) hS hC 2 rfl ?_
        refine ex_call (y' := m_X9_finding) (rest := []) (ent := [.ref 0, .int 1]) hS hC rfl rfl rfl rfl rfl rfl ?_
        refine bk_X9_finding_0 ?_
        show pm_Ex ro m_X9_copy 54 [.ref 0, .int a1, .int a2, .int a3, .int a4, .int a5, .ref (24 + 2 * a1.toNatClampNeg), .ref (24 + 2 * a3.toNatClampNeg)] [.int ((-10) - (1 : Int32))] (pm_up mem 0 10 (1 : Int32)) Q
        exact ex_ret (v := (some (.int ((-10) - (1 : Int32))))) hS hC rfl rfl rfl k
      · replace k := k.2 (zb0n h)
        refine ex_many (pc' := 43) (ls' := [.ref 0, .int a1, .int a2, .int a3, .int a4, .int a5, .ref (24 + 2 * a1.toNatClampNeg), .ref (24 + 2 * a3.toNatClampNeg)]) (st' := [.ref (24 + 2 * a3.toNatClampNeg)]) (mem' := mem) hS hC 1 rfl ?_
        refine ex_call (y' := m_X6_isLost) (rest := []) (ent := [.ref (24 + 2 * a3.toNatClampNeg)]) hS hC rfl rfl rfl (pm_calS rfl rfl rfl (pm_shl (pm_shN hg_a3))) rfl rfl ?_
        refine bk_X6_isLost_0 (pm_shN hg_a3) ?_
        show pm_Ex ro m_X9_copy 46 [.ref 0, .int a1, .int a2, .int a3, .int a4, .int a5, .ref (24 + 2 * a1.toNatClampNeg), .ref (24 + 2 * a3.toNatClampNeg)] [.int (zb (¬ (¬ (mem (24 + 2 * a3.toNatClampNeg) 1) = (-1))))] mem Q
        refine ex_br (P := (zb (¬ (¬ (mem (24 + 2 * a3.toNatClampNeg) 1) = (-1)))) = 0) (a := 55) (b := 49) (ls' := [.ref 0, .int a1, .int a2, .int a3, .int a4, .int a5, .ref (24 + 2 * a1.toNatClampNeg), .ref (24 + 2 * a3.toNatClampNeg)]) (st' := []) (mem' := mem) hS hC rfl (fun h => ?_) (fun h => ?_)
        · replace k := k.2 (zb0 h)
          refine ex_many (pc' := 59) (ls' := [.ref 0, .int a1, .int a2, .int a3, .int a4, .int a5, .ref (24 + 2 * a1.toNatClampNeg), .ref (24 + 2 * a3.toNatClampNeg)]) (st' := [.ref (24 + 2 * a3.toNatClampNeg), .ref (24 + 2 * a1.toNatClampNeg)]) (mem' := mem) hS hC 2 rfl ?_
          refine ex_call (y' := m_X6_isLike) (rest := []) (ent := [.ref (24 + 2 * a1.toNatClampNeg), .ref (24 + 2 * a3.toNatClampNeg)]) hS hC rfl rfl rfl (pm_calS rfl rfl rfl (pm_shl (pm_shN hg_a1))) rfl rfl ?_
          refine bk_X6_isLike_0 (pm_shN hg_a1) (pm_shN hg_a3) ?_
          show pm_Ex ro m_X9_copy 62 [.ref 0, .int a1, .int a2, .int a3, .int a4, .int a5, .ref (24 + 2 * a1.toNatClampNeg), .ref (24 + 2 * a3.toNatClampNeg)] [.int (zb (¬ (¬ (mem (24 + 2 * a1.toNatClampNeg) 1) = (mem (24 + 2 * a3.toNatClampNeg) 1))))] mem Q
          refine ex_br (P := ¬ (zb (¬ (¬ (mem (24 + 2 * a1.toNatClampNeg) 1) = (mem (24 + 2 * a3.toNatClampNeg) 1)))) = 0) (a := 71) (b := 65) (ls' := [.ref 0, .int a1, .int a2, .int a3, .int a4, .int a5, .ref (24 + 2 * a1.toNatClampNeg), .ref (24 + 2 * a3.toNatClampNeg)]) (st' := []) (mem' := mem) hS hC rfl (fun h => ?_) (fun h => ?_)
          · replace k := k.1 (zb1 h)
            refine ex_many (pc' := 76) (ls' := [.ref 0, .int a1, .int a2, .int a3, .int a4, .int a5, .ref (24 + 2 * a1.toNatClampNeg), .ref (24 + 2 * a3.toNatClampNeg)]) (st' := [.int a5, .int a2, .ref (24 + 2 * a1.toNatClampNeg)]) (mem' := mem) hS hC 3 rfl ?_
            refine ex_call (y' := m_X6_hasRun) (rest := []) (ent := [.ref (24 + 2 * a1.toNatClampNeg), .int a2, .int a5]) hS hC rfl rfl rfl (pm_calS rfl rfl rfl (pm_shl (pm_shN hg_a1))) rfl rfl ?_
            exact k
          · replace k := k.2 (zb0n h)
            refine ex_many (pc' := 67) (ls' := [.ref 0, .int a1, .int a2, .int a3, .int a4, .int a5, .ref (24 + 2 * a1.toNatClampNeg), .ref (24 + 2 * a3.toNatClampNeg)]) (st' := [.int 4, .ref 0]) (mem' := mem) hS hC 2 rfl ?_
            refine ex_call (y' := m_X9_finding) (rest := []) (ent := [.ref 0, .int 4]) hS hC rfl rfl rfl rfl rfl rfl ?_
            refine bk_X9_finding_0 ?_
            show pm_Ex ro m_X9_copy 70 [.ref 0, .int a1, .int a2, .int a3, .int a4, .int a5, .ref (24 + 2 * a1.toNatClampNeg), .ref (24 + 2 * a3.toNatClampNeg)] [.int ((-10) - (4 : Int32))] (pm_up mem 0 10 (4 : Int32)) Q
            exact ex_ret (v := (some (.int ((-10) - (4 : Int32))))) hS hC rfl rfl rfl k
        · replace k := k.1 (zb1 h)
          refine ex_many (pc' := 51) (ls' := [.ref 0, .int a1, .int a2, .int a3, .int a4, .int a5, .ref (24 + 2 * a1.toNatClampNeg), .ref (24 + 2 * a3.toNatClampNeg)]) (st' := [.int 1, .ref 0]) (mem' := mem) hS hC 2 rfl ?_
          refine ex_call (y' := m_X9_finding) (rest := []) (ent := [.ref 0, .int 1]) hS hC rfl rfl rfl rfl rfl rfl ?_
          refine bk_X9_finding_0 ?_
          show pm_Ex ro m_X9_copy 54 [.ref 0, .int a1, .int a2, .int a3, .int a4, .int a5, .ref (24 + 2 * a1.toNatClampNeg), .ref (24 + 2 * a3.toNatClampNeg)] [.int ((-10) - (1 : Int32))] (pm_up mem 0 10 (1 : Int32)) Q
          exact ex_ret (v := (some (.int ((-10) - (1 : Int32))))) hS hC rfl rfl rfl k
    · replace k := k.2 (zb0n h)
      refine ex_many (pc' := 16) (ls' := [.ref 0, .int a1, .int a2, .int a3, .int a4, .int a5, .null, .null]) (st' := [.int (-2)]) (mem' := mem) hS hC 1 rfl ?_
      exact ex_ret (v := (some (.int (-2)))) hS hC rfl rfl rfl k

set_option maxRecDepth 20000 in
theorem bk_X9_copy_79 {ro : pm_RO} {Q : Option Value → pm_M → Prop} {mem : pm_M} {x1 x2 x3 x4 x5 s0 : Int32} {t6 : Nat} (ht6 : pm_isSh t6) {t7 : Nat} (ht7 : pm_isSh t7) (k : (s0 = 0 → Q (some (.int ((-10) - (2 : Int32)))) (pm_up mem 0 10 (2 : Int32))) ∧ (¬ (s0 = 0) → pm_Ex ro m_X6_hasRun 0 [.ref t7, .int x4, .int x5] [] mem (fun v m => pm_Ex ro m_X9_copy 91 [.ref 0, .int x1, .int x2, .int x3, .int x4, .int x5, .ref t6, .ref t7] (v.toList ++ []) m Q))) : pm_Ex ro m_X9_copy 79 [.ref 0, .int x1, .int x2, .int x3, .int x4, .int x5, .ref t6, .ref t7] [.int s0] mem Q := by
  have hS : pm_sig[m_X9_copy]? = some _ := rfl
  have hC : pm_cod[m_X9_copy]? = some _ := rfl
  refine ex_br (P := s0 = 0) (a := 94) (b := 82) (ls' := [.ref 0, .int x1, .int x2, .int x3, .int x4, .int x5, .ref t6, .ref t7]) (st' := []) (mem' := mem) hS hC rfl (fun h => ?_) (fun h => ?_)
  · replace k := k.1 (h)
    refine ex_many (pc' := 96) (ls' := [.ref 0, .int x1, .int x2, .int x3, .int x4, .int x5, .ref t6, .ref t7]) (st' := [.int 2, .ref 0]) (mem' := mem) hS hC 2 rfl ?_
    refine ex_call (y' := m_X9_finding) (rest := []) (ent := [.ref 0, .int 2]) hS hC rfl rfl rfl rfl rfl rfl ?_
    refine bk_X9_finding_0 ?_
    show pm_Ex ro m_X9_copy 99 [.ref 0, .int x1, .int x2, .int x3, .int x4, .int x5, .ref t6, .ref t7] [.int ((-10) - (2 : Int32))] (pm_up mem 0 10 (2 : Int32)) Q
    exact ex_ret (v := (some (.int ((-10) - (2 : Int32))))) hS hC rfl rfl rfl k
  · replace k := k.2 (h)
    refine ex_many (pc' := 88) (ls' := [.ref 0, .int x1, .int x2, .int x3, .int x4, .int x5, .ref t6, .ref t7]) (st' := [.int x5, .int x4, .ref t7]) (mem' := mem) hS hC 3 rfl ?_
    refine ex_call (y' := m_X6_hasRun) (rest := []) (ent := [.ref t7, .int x4, .int x5]) hS hC rfl rfl rfl (pm_calS rfl rfl rfl (pm_shl ht7)) rfl rfl ?_
    exact k

set_option maxRecDepth 20000 in
theorem bk_X9_copy_91 {ro : pm_RO} {Q : Option Value → pm_M → Prop} {mem : pm_M} {x1 x2 x3 x4 x5 s0 : Int32} {t6 : Nat} (ht6 : pm_isSh t6) {t7 : Nat} (ht7 : pm_isSh t7) (k : (¬ s0 = 0 → pm_Ex ro m_X6_takeRun 0 [.ref t7, .ref t6, .int x2, .int x4, .int x5] [] mem (fun v m => pm_Ex ro m_X9_copy 112 [.ref 0, .int x1, .int x2, .int x3, .int x4, .int x5, .ref t6, .ref t7] (v.toList ++ []) m Q)) ∧ (¬ (¬ s0 = 0) → Q (some (.int ((-10) - (2 : Int32)))) (pm_up mem 0 10 (2 : Int32)))) : pm_Ex ro m_X9_copy 91 [.ref 0, .int x1, .int x2, .int x3, .int x4, .int x5, .ref t6, .ref t7] [.int s0] mem Q := by
  have hS : pm_sig[m_X9_copy]? = some _ := rfl
  have hC : pm_cod[m_X9_copy]? = some _ := rfl
  refine ex_br (P := ¬ s0 = 0) (a := 100) (b := 94) (ls' := [.ref 0, .int x1, .int x2, .int x3, .int x4, .int x5, .ref t6, .ref t7]) (st' := []) (mem' := mem) hS hC rfl (fun h => ?_) (fun h => ?_)
  · replace k := k.1 (h)
    refine ex_many (pc' := 109) (ls' := [.ref 0, .int x1, .int x2, .int x3, .int x4, .int x5, .ref t6, .ref t7]) (st' := [.int x5, .int x4, .int x2, .ref t6, .ref t7]) (mem' := mem) hS hC 5 rfl ?_
    refine ex_call (y' := m_X6_takeRun) (rest := []) (ent := [.ref t7, .ref t6, .int x2, .int x4, .int x5]) hS hC rfl rfl rfl (pm_calS rfl rfl rfl (pm_shl ht7)) rfl rfl ?_
    exact k
  · replace k := k.2 (h)
    refine ex_many (pc' := 96) (ls' := [.ref 0, .int x1, .int x2, .int x3, .int x4, .int x5, .ref t6, .ref t7]) (st' := [.int 2, .ref 0]) (mem' := mem) hS hC 2 rfl ?_
    refine ex_call (y' := m_X9_finding) (rest := []) (ent := [.ref 0, .int 2]) hS hC rfl rfl rfl rfl rfl rfl ?_
    refine bk_X9_finding_0 ?_
    show pm_Ex ro m_X9_copy 99 [.ref 0, .int x1, .int x2, .int x3, .int x4, .int x5, .ref t6, .ref t7] [.int ((-10) - (2 : Int32))] (pm_up mem 0 10 (2 : Int32)) Q
    exact ex_ret (v := (some (.int ((-10) - (2 : Int32))))) hS hC rfl rfl rfl k

set_option maxRecDepth 20000 in
theorem bk_X9_copy_112 {ro : pm_RO} {Q : Option Value → pm_M → Prop} {mem : pm_M} {x1 x2 x3 x4 x5 : Int32} {t6 : Nat} (ht6 : pm_isSh t6) {t7 : Nat} (ht7 : pm_isSh t7) (k : Q (some (.int 1)) mem) : pm_Ex ro m_X9_copy 112 [.ref 0, .int x1, .int x2, .int x3, .int x4, .int x5, .ref t6, .ref t7] [] mem Q := by
  have hS : pm_sig[m_X9_copy]? = some _ := rfl
  have hC : pm_cod[m_X9_copy]? = some _ := rfl
  refine ex_many (pc' := 113) (ls' := [.ref 0, .int x1, .int x2, .int x3, .int x4, .int x5, .ref t6, .ref t7]) (st' := [.int 1]) (mem' := mem) hS hC 1 rfl ?_
  exact ex_ret (v := (some (.int 1))) hS hC rfl rfl rfl k

set_option maxRecDepth 20000 in
theorem bk_X9_write_0 {ro : pm_RO} {Q : Option Value → pm_M → Prop} {mem : pm_M} {a1 a2 : Int32} (k : (¬ (a1 < (0 : Int32)) ∧ (¬ ((9999 : Int32) < a1)) → (¬ (a2 < (0 : Int32)) ∧ (¬ ((3 : Int32) < a2)) → (pm_inb a2 4 = true) ∧ ((¬ (¬ (mem (24 + 2 * a2.toNatClampNeg) 1) = (-1)) → Q (some (.int ((-10) - (1 : Int32)))) (pm_up mem 0 10 (1 : Int32))) ∧ (¬ (¬ (¬ (mem (24 + 2 * a2.toNatClampNeg) 1) = (-1))) → pm_Ex ro m_X2_splitUp 0 [.ref 1, .int a1, .ref 32, .null, .null, .null] [] mem (fun v m => pm_Ex ro m_X9_write 49 [.ref 0, .int a1, .int a2, .ref (24 + 2 * a2.toNatClampNeg), .null, .null, .null] (v.toList ++ []) m Q)))) ∧ (¬ (¬ (a2 < (0 : Int32)) ∧ (¬ ((3 : Int32) < a2))) → Q (some (.int (-2))) mem)) ∧ (¬ (¬ (a1 < (0 : Int32)) ∧ (¬ ((9999 : Int32) < a1))) → Q (some (.int (-2))) mem)) : pm_Ex ro m_X9_write 0 [.ref 0, .int a1, .int a2, .null, .null, .null, .null] [] mem Q := by
  have hS : pm_sig[m_X9_write]? = some _ := rfl
  have hC : pm_cod[m_X9_write]? = some _ := rfl
  refine ex_many (pc' := 1) (ls' := [.ref 0, .int a1, .int a2, .null, .null, .null, .null]) (st' := [.int a1]) (mem' := mem) hS hC 1 rfl ?_
  refine ex_call (y' := m_X9_isNumber) (rest := []) (ent := [.int a1]) hS hC rfl rfl rfl rfl rfl rfl ?_
  refine bk_X9_isNumber_0 ?_
  show pm_Ex ro m_X9_write 4 [.ref 0, .int a1, .int a2, .null, .null, .null, .null] [.int (zb (¬ (a1 < (0 : Int32)) ∧ (¬ ((9999 : Int32) < a1))))] mem Q
  refine ex_br (P := (zb (¬ (a1 < (0 : Int32)) ∧ (¬ ((9999 : Int32) < a1)))) = 0) (a := 14) (b := 7) (ls' := [.ref 0, .int a1, .int a2, .null, .null, .null, .null]) (st' := []) (mem' := mem) hS hC rfl (fun h => ?_) (fun h => ?_)
  · replace k := k.2 (zb0 h)
    refine ex_many (pc' := 16) (ls' := [.ref 0, .int a1, .int a2, .null, .null, .null, .null]) (st' := [.int (-2)]) (mem' := mem) hS hC 1 rfl ?_
    exact ex_ret (v := (some (.int (-2)))) hS hC rfl rfl rfl k
  · replace k := k.1 (zb1 h)
    refine ex_many (pc' := 8) (ls' := [.ref 0, .int a1, .int a2, .null, .null, .null, .null]) (st' := [.int a2]) (mem' := mem) hS hC 1 rfl ?_
    refine ex_call (y' := m_X9_isSheet) (rest := []) (ent := [.int a2]) hS hC rfl rfl rfl rfl rfl rfl ?_
    refine bk_X9_isSheet_0 ?_
    show pm_Ex ro m_X9_write 11 [.ref 0, .int a1, .int a2, .null, .null, .null, .null] [.int (zb (¬ (a2 < (0 : Int32)) ∧ (¬ ((3 : Int32) < a2))))] mem Q
    refine ex_br (P := ¬ (zb (¬ (a2 < (0 : Int32)) ∧ (¬ ((3 : Int32) < a2)))) = 0) (a := 17) (b := 14) (ls' := [.ref 0, .int a1, .int a2, .null, .null, .null, .null]) (st' := []) (mem' := mem) hS hC rfl (fun h => ?_) (fun h => ?_)
    · replace k := k.1 (zb1 h)
      refine ex_many (pc' := 22) (ls' := [.ref 0, .int a1, .int a2, .null, .null, .null, .null]) (st' := [.int a2, .ref 23]) (mem' := mem) hS hC 3 rfl ?_
      have hg_a2 := k.1
      refine ex_aalS hS hC rfl hg_a2 ?_
      replace k := k.2
      refine ex_many (pc' := 25) (ls' := [.ref 0, .int a1, .int a2, .ref (24 + 2 * a2.toNatClampNeg), .null, .null, .null]) (st' := [.ref (24 + 2 * a2.toNatClampNeg)]) (mem' := mem) hS hC 2 rfl ?_
      refine ex_call (y' := m_X6_isLost) (rest := []) (ent := [.ref (24 + 2 * a2.toNatClampNeg)]) hS hC rfl rfl rfl (pm_calS rfl rfl rfl (pm_shl (pm_shN hg_a2))) rfl rfl ?_
      refine bk_X6_isLost_0 (pm_shN hg_a2) ?_
      show pm_Ex ro m_X9_write 28 [.ref 0, .int a1, .int a2, .ref (24 + 2 * a2.toNatClampNeg), .null, .null, .null] [.int (zb (¬ (¬ (mem (24 + 2 * a2.toNatClampNeg) 1) = (-1))))] mem Q
      refine ex_br (P := (zb (¬ (¬ (mem (24 + 2 * a2.toNatClampNeg) 1) = (-1)))) = 0) (a := 37) (b := 31) (ls' := [.ref 0, .int a1, .int a2, .ref (24 + 2 * a2.toNatClampNeg), .null, .null, .null]) (st' := []) (mem' := mem) hS hC rfl (fun h => ?_) (fun h => ?_)
      · replace k := k.2 (zb0 h)
        refine ex_many (pc' := 46) (ls' := [.ref 0, .int a1, .int a2, .ref (24 + 2 * a2.toNatClampNeg), .null, .null, .null]) (st' := [.ref 32, .int a1, .ref 1]) (mem' := mem) hS hC 5 rfl ?_
        refine ex_call (y' := m_X2_splitUp) (rest := []) (ent := [.ref 1, .int a1, .ref 32, .null, .null, .null]) hS hC rfl rfl rfl rfl rfl rfl ?_
        exact k
      · replace k := k.1 (zb1 h)
        refine ex_many (pc' := 33) (ls' := [.ref 0, .int a1, .int a2, .ref (24 + 2 * a2.toNatClampNeg), .null, .null, .null]) (st' := [.int 1, .ref 0]) (mem' := mem) hS hC 2 rfl ?_
        refine ex_call (y' := m_X9_finding) (rest := []) (ent := [.ref 0, .int 1]) hS hC rfl rfl rfl rfl rfl rfl ?_
        refine bk_X9_finding_0 ?_
        show pm_Ex ro m_X9_write 36 [.ref 0, .int a1, .int a2, .ref (24 + 2 * a2.toNatClampNeg), .null, .null, .null] [.int ((-10) - (1 : Int32))] (pm_up mem 0 10 (1 : Int32)) Q
        exact ex_ret (v := (some (.int ((-10) - (1 : Int32))))) hS hC rfl rfl rfl k
    · replace k := k.2 (zb0n h)
      refine ex_many (pc' := 16) (ls' := [.ref 0, .int a1, .int a2, .null, .null, .null, .null]) (st' := [.int (-2)]) (mem' := mem) hS hC 1 rfl ?_
      exact ex_ret (v := (some (.int (-2)))) hS hC rfl rfl rfl k

set_option maxRecDepth 20000 in
theorem bk_X9_write_65 {ro : pm_RO} {Q : Option Value → pm_M → Prop} {mem : pm_M} {x1 x2 x4 x5 x6 : Int32} {t3 : Nat} (ht3 : pm_isSh t3) (k : (x5 ≤ x6 → Q (some (.int x5)) mem) ∧ (¬ (x5 ≤ x6) → (pm_inb ((x4 - 1) - x6) 31 = true) ∧ (pm_Ex ro m_X6_put 0 [.ref t3, .int x6, .int (mem 32 (((x4 - 1) - x6).toNatClampNeg))] [] mem (fun v m => pm_Ex ro m_X9_write 90 [.ref 0, .int x1, .int x2, .ref t3, .int x4, .int x5, .int x6] (v.toList ++ []) m Q)))) : pm_Ex ro m_X9_write 65 [.ref 0, .int x1, .int x2, .ref t3, .int x4, .int x5, .int x6] [] mem Q := by
  have hS : pm_sig[m_X9_write]? = some _ := rfl
  have hC : pm_cod[m_X9_write]? = some _ := rfl
  refine ex_many (pc' := 69) (ls' := [.ref 0, .int x1, .int x2, .ref t3, .int x4, .int x5, .int x6]) (st' := [.int x5, .int x6]) (mem' := mem) hS hC 2 rfl ?_
  refine ex_br (P := x5 ≤ x6) (a := 96) (b := 72) (ls' := [.ref 0, .int x1, .int x2, .ref t3, .int x4, .int x5, .int x6]) (st' := []) (mem' := mem) hS hC rfl (fun h => ?_) (fun h => ?_)
  · replace k := k.1 (h)
    refine ex_many (pc' := 98) (ls' := [.ref 0, .int x1, .int x2, .ref t3, .int x4, .int x5, .int x6]) (st' := [.int x5]) (mem' := mem) hS hC 1 rfl ?_
    exact ex_ret (v := (some (.int x5))) hS hC rfl rfl rfl k
  · replace k := k.2 (h)
    refine ex_many (pc' := 86) (ls' := [.ref 0, .int x1, .int x2, .ref t3, .int x4, .int x5, .int x6]) (st' := [.int ((x4 - 1) - x6), .ref 32, .int x6, .ref t3]) (mem' := mem) hS hC 9 rfl ?_
    refine ex_grd (b := pm_inb ((x4 - 1) - x6) 31) (pc' := 87) (ls' := [.ref 0, .int x1, .int x2, .ref t3, .int x4, .int x5, .int x6]) (st' := [.int (mem 32 (((x4 - 1) - x6).toNatClampNeg)), .int x6, .ref t3]) (mem' := mem) hS hC rfl k.1 ?_
    replace k := k.2
    refine ex_call (y' := m_X6_put) (rest := []) (ent := [.ref t3, .int x6, .int (mem 32 (((x4 - 1) - x6).toNatClampNeg))]) hS hC rfl rfl rfl (pm_calS rfl rfl rfl (pm_shl ht3)) rfl rfl ?_
    exact k

set_option maxRecDepth 20000 in
theorem bk_X9_write_49 {ro : pm_RO} {Q : Option Value → pm_M → Prop} {mem : pm_M} {x1 x2 s0 : Int32} {t3 : Nat} (ht3 : pm_isSh t3) (k : pm_Ex ro m_X9_write 65 [.ref 0, .int x1, .int x2, .ref t3, .int s0, .int (if (mem t3 2) < s0 then (mem t3 2) else s0), .int 0] [] mem Q) : pm_Ex ro m_X9_write 49 [.ref 0, .int x1, .int x2, .ref t3, .null, .null, .null] [.int s0] mem Q := by
  have hS : pm_sig[m_X9_write]? = some _ := rfl
  have hC : pm_cod[m_X9_write]? = some _ := rfl
  refine ex_many (pc' := 54) (ls' := [.ref 0, .int x1, .int x2, .ref t3, .int s0, .null, .null]) (st' := [.ref t3, .int s0]) (mem' := mem) hS hC 3 rfl ?_
  refine ex_call (y' := m_X6_size) (rest := [.int s0]) (ent := [.ref t3]) hS hC rfl rfl rfl (pm_calS rfl rfl rfl (pm_shl ht3)) rfl rfl ?_
  refine bk_X6_size_0 ht3 ?_
  show pm_Ex ro m_X9_write 57 [.ref 0, .int x1, .int x2, .ref t3, .int s0, .null, .null] [.int (mem t3 2), .int s0] mem Q
  refine ex_spc (pc' := 60) (ls' := [.ref 0, .int x1, .int x2, .ref t3, .int s0, .null, .null]) (st' := [.int (if (mem t3 2) < s0 then (mem t3 2) else s0)]) (mem' := mem) hS hC rfl rfl rfl rfl rfl ?_
  refine ex_many (pc' := 65) (ls' := [.ref 0, .int x1, .int x2, .ref t3, .int s0, .int (if (mem t3 2) < s0 then (mem t3 2) else s0), .int 0]) (st' := []) (mem' := mem) hS hC 3 rfl ?_
  exact k

set_option maxRecDepth 20000 in
theorem bk_X9_write_90 {ro : pm_RO} {Q : Option Value → pm_M → Prop} {mem : pm_M} {x1 x2 x4 x5 x6 : Int32} {t3 : Nat} (ht3 : pm_isSh t3) (k : pm_Ex ro m_X9_write 65 [.ref 0, .int x1, .int x2, .ref t3, .int x4, .int x5, .int (x6 + 1)] [] mem Q) : pm_Ex ro m_X9_write 90 [.ref 0, .int x1, .int x2, .ref t3, .int x4, .int x5, .int x6] [] mem Q := by
  have hS : pm_sig[m_X9_write]? = some _ := rfl
  have hC : pm_cod[m_X9_write]? = some _ := rfl
  refine ex_many (pc' := 65) (ls' := [.ref 0, .int x1, .int x2, .ref t3, .int x4, .int x5, .int (x6 + 1)]) (st' := []) (mem' := mem) hS hC 2 rfl ?_
  exact k

set_option maxRecDepth 20000 in
theorem bk_X9_count_0 {ro : pm_RO} {Q : Option Value → pm_M → Prop} {mem : pm_M} {a1 : Int32} (k : pm_Ex ro m_X9_count 1 [.ref 0, .int a1] [.int a1] mem Q) : pm_Ex ro m_X9_count 0 [.ref 0, .int a1] [] mem Q := by
  have hS : pm_sig[m_X9_count]? = some _ := rfl
  have hC : pm_cod[m_X9_count]? = some _ := rfl
  refine ex_many (pc' := 1) (ls' := [.ref 0, .int a1]) (st' := [.int a1]) (mem' := mem) hS hC 1 rfl ?_
  exact k

set_option maxRecDepth 20000 in
theorem bk_X9_count_1_c0 {ro : pm_RO} {Q : Option Value → pm_M → Prop} {mem : pm_M} {x1 : Int32} (k : Q (some (.int (mem 3 3))) mem) : pm_Ex ro m_X9_count 1 [.ref 0, .int x1] [.int 0] mem Q := by
  have hS : pm_sig[m_X9_count]? = some _ := rfl
  have hC : pm_cod[m_X9_count]? = some _ := rfl
  refine ex_one (pc' := 52) (ls' := [.ref 0, .int x1]) (st' := []) (mem' := mem) hS hC rfl ?_
  refine ex_many (pc' := 56) (ls' := [.ref 0, .int x1]) (st' := [.ref 3]) (mem' := mem) hS hC 2 rfl ?_
  refine ex_call (y' := m_X1_size) (rest := []) (ent := [.ref 3]) hS hC rfl rfl rfl rfl rfl rfl ?_
  refine bk_X1_size_0 ?_
  show pm_Ex ro m_X9_count 59 [.ref 0, .int x1] [.int (mem 3 3)] mem Q
  exact ex_ret (v := (some (.int (mem 3 3)))) hS hC rfl rfl rfl k

set_option maxRecDepth 20000 in
theorem bk_X9_count_1_c1 {ro : pm_RO} {Q : Option Value → pm_M → Prop} {mem : pm_M} {x1 : Int32} (k : Q (some (.int (mem 3 2))) mem) : pm_Ex ro m_X9_count 1 [.ref 0, .int x1] [.int 1] mem Q := by
  have hS : pm_sig[m_X9_count]? = some _ := rfl
  have hC : pm_cod[m_X9_count]? = some _ := rfl
  refine ex_one (pc' := 60) (ls' := [.ref 0, .int x1]) (st' := []) (mem' := mem) hS hC rfl ?_
  refine ex_many (pc' := 64) (ls' := [.ref 0, .int x1]) (st' := [.ref 3]) (mem' := mem) hS hC 2 rfl ?_
  refine ex_call (y' := m_X1_length) (rest := []) (ent := [.ref 3]) hS hC rfl rfl rfl rfl rfl rfl ?_
  refine bk_X1_length_0 ?_
  show pm_Ex ro m_X9_count 67 [.ref 0, .int x1] [.int (mem 3 2)] mem Q
  exact ex_ret (v := (some (.int (mem 3 2)))) hS hC rfl rfl rfl k

set_option maxRecDepth 20000 in
theorem bk_X9_count_1_c2 {ro : pm_RO} {Q : Option Value → pm_M → Prop} {mem : pm_M} {x1 : Int32} (k : pm_Ex ro m_J6_bitCount_0f7a4 0 [.int (mem 3 4)] [] mem (fun v m => pm_Ex ro m_X9_count 78 [.ref 0, .int x1] (v.toList ++ []) m Q)) : pm_Ex ro m_X9_count 1 [.ref 0, .int x1] [.int 2] mem Q := by
  have hS : pm_sig[m_X9_count]? = some _ := rfl
  have hC : pm_cod[m_X9_count]? = some _ := rfl
  refine ex_one (pc' := 68) (ls' := [.ref 0, .int x1]) (st' := []) (mem' := mem) hS hC rfl ?_
  refine ex_many (pc' := 72) (ls' := [.ref 0, .int x1]) (st' := [.ref 3]) (mem' := mem) hS hC 2 rfl ?_
  refine ex_call (y' := m_X1_wantedBits) (rest := []) (ent := [.ref 3]) hS hC rfl rfl rfl rfl rfl rfl ?_
  refine bk_X1_wantedBits_0 ?_
  show pm_Ex ro m_X9_count 75 [.ref 0, .int x1] [.int (mem 3 4)] mem Q
  refine ex_call (y' := m_J6_bitCount_0f7a4) (rest := []) (ent := [.int (mem 3 4)]) hS hC rfl rfl rfl rfl rfl rfl ?_
  exact k

set_option maxRecDepth 20000 in
theorem bk_X9_count_1_c3 {ro : pm_RO} {Q : Option Value → pm_M → Prop} {mem : pm_M} {x1 : Int32} (k : pm_Ex ro m_X7_sumOf 0 [.ref 6, .int (((1 : Int32) <<< ((mem 3 3) &&& 31)) - 1)] [] mem (fun v m => pm_Ex ro m_X9_count 93 [.ref 0, .int x1] (v.toList ++ []) m Q)) : pm_Ex ro m_X9_count 1 [.ref 0, .int x1] [.int 3] mem Q := by
  have hS : pm_sig[m_X9_count]? = some _ := rfl
  have hC : pm_cod[m_X9_count]? = some _ := rfl
  refine ex_one (pc' := 79) (ls' := [.ref 0, .int x1]) (st' := []) (mem' := mem) hS hC rfl ?_
  refine ex_many (pc' := 87) (ls' := [.ref 0, .int x1]) (st' := [.ref 3, .ref 6]) (mem' := mem) hS hC 4 rfl ?_
  refine ex_call (y' := m_X1_allBits) (rest := [.ref 6]) (ent := [.ref 3]) hS hC rfl rfl rfl rfl rfl rfl ?_
  refine bk_X1_allBits_0 ?_
  show pm_Ex ro m_X9_count 90 [.ref 0, .int x1] [.int (((1 : Int32) <<< ((mem 3 3) &&& 31)) - 1), .ref 6] mem Q
  refine ex_call (y' := m_X7_sumOf) (rest := []) (ent := [.ref 6, .int (((1 : Int32) <<< ((mem 3 3) &&& 31)) - 1)]) hS hC rfl rfl rfl rfl rfl rfl ?_
  exact k

set_option maxRecDepth 20000 in
theorem bk_X9_count_1_c4 {ro : pm_RO} {Q : Option Value → pm_M → Prop} {mem : pm_M} {x1 : Int32} (k : (pm_inb (x1 - 4) 4 = true) ∧ (Q (some (.int (mem 2 ((x1 - 4).toNatClampNeg)))) mem)) : pm_Ex ro m_X9_count 1 [.ref 0, .int x1] [.int 4] mem Q := by
  have hS : pm_sig[m_X9_count]? = some _ := rfl
  have hC : pm_cod[m_X9_count]? = some _ := rfl
  refine ex_one (pc' := 94) (ls' := [.ref 0, .int x1]) (st' := []) (mem' := mem) hS hC rfl ?_
  refine ex_many (pc' := 101) (ls' := [.ref 0, .int x1]) (st' := [.int (x1 - 4), .ref 1]) (mem' := mem) hS hC 5 rfl ?_
  refine ex_call (y' := m_X2_valueOf) (rest := []) (ent := [.ref 1, .int (x1 - 4)]) hS hC rfl rfl rfl rfl rfl rfl ?_
  refine bk_X2_valueOf_0 ⟨k.1, ?_⟩
  replace k := k.2
  show pm_Ex ro m_X9_count 104 [.ref 0, .int x1] [.int (mem 2 ((x1 - 4).toNatClampNeg))] mem Q
  exact ex_ret (v := (some (.int (mem 2 ((x1 - 4).toNatClampNeg))))) hS hC rfl rfl rfl k

set_option maxRecDepth 20000 in
theorem bk_X9_count_1_c5 {ro : pm_RO} {Q : Option Value → pm_M → Prop} {mem : pm_M} {x1 : Int32} (k : (pm_inb (x1 - 4) 4 = true) ∧ (Q (some (.int (mem 2 ((x1 - 4).toNatClampNeg)))) mem)) : pm_Ex ro m_X9_count 1 [.ref 0, .int x1] [.int 5] mem Q := by
  have hS : pm_sig[m_X9_count]? = some _ := rfl
  have hC : pm_cod[m_X9_count]? = some _ := rfl
  refine ex_one (pc' := 94) (ls' := [.ref 0, .int x1]) (st' := []) (mem' := mem) hS hC rfl ?_
  refine ex_many (pc' := 101) (ls' := [.ref 0, .int x1]) (st' := [.int (x1 - 4), .ref 1]) (mem' := mem) hS hC 5 rfl ?_
  refine ex_call (y' := m_X2_valueOf) (rest := []) (ent := [.ref 1, .int (x1 - 4)]) hS hC rfl rfl rfl rfl rfl rfl ?_
  refine bk_X2_valueOf_0 ⟨k.1, ?_⟩
  replace k := k.2
  show pm_Ex ro m_X9_count 104 [.ref 0, .int x1] [.int (mem 2 ((x1 - 4).toNatClampNeg))] mem Q
  exact ex_ret (v := (some (.int (mem 2 ((x1 - 4).toNatClampNeg))))) hS hC rfl rfl rfl k

set_option maxRecDepth 20000 in
theorem bk_X9_count_1_c6 {ro : pm_RO} {Q : Option Value → pm_M → Prop} {mem : pm_M} {x1 : Int32} (k : (pm_inb (x1 - 4) 4 = true) ∧ (Q (some (.int (mem 2 ((x1 - 4).toNatClampNeg)))) mem)) : pm_Ex ro m_X9_count 1 [.ref 0, .int x1] [.int 6] mem Q := by
  have hS : pm_sig[m_X9_count]? = some _ := rfl
  have hC : pm_cod[m_X9_count]? = some _ := rfl
  refine ex_one (pc' := 94) (ls' := [.ref 0, .int x1]) (st' := []) (mem' := mem) hS hC rfl ?_
  refine ex_many (pc' := 101) (ls' := [.ref 0, .int x1]) (st' := [.int (x1 - 4), .ref 1]) (mem' := mem) hS hC 5 rfl ?_
  refine ex_call (y' := m_X2_valueOf) (rest := []) (ent := [.ref 1, .int (x1 - 4)]) hS hC rfl rfl rfl rfl rfl rfl ?_
  refine bk_X2_valueOf_0 ⟨k.1, ?_⟩
  replace k := k.2
  show pm_Ex ro m_X9_count 104 [.ref 0, .int x1] [.int (mem 2 ((x1 - 4).toNatClampNeg))] mem Q
  exact ex_ret (v := (some (.int (mem 2 ((x1 - 4).toNatClampNeg))))) hS hC rfl rfl rfl k

set_option maxRecDepth 20000 in
theorem bk_X9_count_1_c7 {ro : pm_RO} {Q : Option Value → pm_M → Prop} {mem : pm_M} {x1 : Int32} (k : (pm_inb (x1 - 4) 4 = true) ∧ (Q (some (.int (mem 2 ((x1 - 4).toNatClampNeg)))) mem)) : pm_Ex ro m_X9_count 1 [.ref 0, .int x1] [.int 7] mem Q := by
  have hS : pm_sig[m_X9_count]? = some _ := rfl
  have hC : pm_cod[m_X9_count]? = some _ := rfl
  refine ex_one (pc' := 94) (ls' := [.ref 0, .int x1]) (st' := []) (mem' := mem) hS hC rfl ?_
  refine ex_many (pc' := 101) (ls' := [.ref 0, .int x1]) (st' := [.int (x1 - 4), .ref 1]) (mem' := mem) hS hC 5 rfl ?_
  refine ex_call (y' := m_X2_valueOf) (rest := []) (ent := [.ref 1, .int (x1 - 4)]) hS hC rfl rfl rfl rfl rfl rfl ?_
  refine bk_X2_valueOf_0 ⟨k.1, ?_⟩
  replace k := k.2
  show pm_Ex ro m_X9_count 104 [.ref 0, .int x1] [.int (mem 2 ((x1 - 4).toNatClampNeg))] mem Q
  exact ex_ret (v := (some (.int (mem 2 ((x1 - 4).toNatClampNeg))))) hS hC rfl rfl rfl k

set_option maxRecDepth 20000 in
theorem bk_X9_count_1_c8 {ro : pm_RO} {Q : Option Value → pm_M → Prop} {mem : pm_M} {x1 : Int32} (k : Q (some (.int (mem 0 10))) mem) : pm_Ex ro m_X9_count 1 [.ref 0, .int x1] [.int 8] mem Q := by
  have hS : pm_sig[m_X9_count]? = some _ := rfl
  have hC : pm_cod[m_X9_count]? = some _ := rfl
  refine ex_one (pc' := 105) (ls' := [.ref 0, .int x1]) (st' := []) (mem' := mem) hS hC rfl ?_
  refine ex_many (pc' := 109) (ls' := [.ref 0, .int x1]) (st' := [.int (mem 0 10)]) (mem' := mem) hS hC 2 rfl ?_
  exact ex_ret (v := (some (.int (mem 0 10)))) hS hC rfl rfl rfl k

set_option maxRecDepth 20000 in
theorem bk_X9_count_1_d {ro : pm_RO} {Q : Option Value → pm_M → Prop} {mem : pm_M} {x1 s0 : Int32} (h0 : ¬ s0 = 0) (h1 : ¬ s0 = 1) (h2 : ¬ s0 = 2) (h3 : ¬ s0 = 3) (h4 : ¬ s0 = 4) (h5 : ¬ s0 = 5) (h6 : ¬ s0 = 6) (h7 : ¬ s0 = 7) (h8 : ¬ s0 = 8) (k : Q (some (.int (-2))) mem) : pm_Ex ro m_X9_count 1 [.ref 0, .int x1] [.int s0] mem Q := by
  have hS : pm_sig[m_X9_count]? = some _ := rfl
  have hC : pm_cod[m_X9_count]? = some _ := rfl
  refine ex_tswd hS hC rfl (a := 110) rfl (pm_out9 h0 h1 h2 h3 h4 h5 h6 h7 h8) ?_
  refine ex_many (pc' := 112) (ls' := [.ref 0, .int x1]) (st' := [.int (-2)]) (mem' := mem) hS hC 1 rfl ?_
  exact ex_ret (v := (some (.int (-2)))) hS hC rfl rfl rfl k

set_option maxRecDepth 20000 in
theorem bk_X9_count_78 {ro : pm_RO} {Q : Option Value → pm_M → Prop} {mem : pm_M} {x1 s0 : Int32} (k : Q (some (.int s0)) mem) : pm_Ex ro m_X9_count 78 [.ref 0, .int x1] [.int s0] mem Q := by
  have hS : pm_sig[m_X9_count]? = some _ := rfl
  have hC : pm_cod[m_X9_count]? = some _ := rfl
  exact ex_ret (v := (some (.int s0))) hS hC rfl rfl rfl k

set_option maxRecDepth 20000 in
theorem bk_X9_count_93 {ro : pm_RO} {Q : Option Value → pm_M → Prop} {mem : pm_M} {x1 s0 : Int32} (k : Q (some (.int s0)) mem) : pm_Ex ro m_X9_count 93 [.ref 0, .int x1] [.int s0] mem Q := by
  have hS : pm_sig[m_X9_count]? = some _ := rfl
  have hC : pm_cod[m_X9_count]? = some _ := rfl
  exact ex_ret (v := (some (.int s0))) hS hC rfl rfl rfl k

set_option maxRecDepth 20000 in
theorem bk_X9_goodsInto_0 {ro : pm_RO} {Q : Option Value → pm_M → Prop} {mem : pm_M} {a1 : Int64} (k : pm_Ex ro m_X9_goodsInto 5 [.ref 0, .long a1, .null, .long a1, .null, .int 0, .null] [] mem Q) : pm_Ex ro m_X9_goodsInto 0 [.ref 0, .long a1, .null, .null, .null, .null, .null] [] mem Q := by
  have hS : pm_sig[m_X9_goodsInto]? = some _ := rfl
  have hC : pm_cod[m_X9_goodsInto]? = some _ := rfl
  refine ex_many (pc' := 5) (ls' := [.ref 0, .long a1, .null, .long a1, .null, .int 0, .null]) (st' := []) (mem' := mem) hS hC 4 rfl ?_
  exact k

set_option maxRecDepth 20000 in
theorem bk_X9_goodsInto_5 {ro : pm_RO} {Q : Option Value → pm_M → Prop} {mem : pm_M} {x5 : Int32} {x1 x3 : Int64} {d6 : Value} (k : ((mem 3 3) ≤ x5 → Q (some (.long x3)) mem) ∧ (¬ ((mem 3 3) ≤ x5) → pm_Ex ro m_X9_goodsInto 20 [.ref 0, .long x1, .null, .long x3, .null, .int x5, .int 0] [] mem Q)) : pm_Ex ro m_X9_goodsInto 5 [.ref 0, .long x1, .null, .long x3, .null, .int x5, d6] [] mem Q := by
  have hS : pm_sig[m_X9_goodsInto]? = some _ := rfl
  have hC : pm_cod[m_X9_goodsInto]? = some _ := rfl
  refine ex_many (pc' := 11) (ls' := [.ref 0, .long x1, .null, .long x3, .null, .int x5, d6]) (st' := [.ref 3, .int x5]) (mem' := mem) hS hC 3 rfl ?_
  refine ex_call (y' := m_X1_size) (rest := [.int x5]) (ent := [.ref 3]) hS hC rfl rfl rfl rfl rfl rfl ?_
  refine bk_X1_size_0 ?_
  show pm_Ex ro m_X9_goodsInto 14 [.ref 0, .long x1, .null, .long x3, .null, .int x5, d6] [.int (mem 3 3), .int x5] mem Q
  refine ex_br (P := (mem 3 3) ≤ x5) (a := 89) (b := 17) (ls' := [.ref 0, .long x1, .null, .long x3, .null, .int x5, d6]) (st' := []) (mem' := mem) hS hC rfl (fun h => ?_) (fun h => ?_)
  · replace k := k.1 (h)
    refine ex_many (pc' := 90) (ls' := [.ref 0, .long x1, .null, .long x3, .null, .int x5, d6]) (st' := [.long x3]) (mem' := mem) hS hC 1 rfl ?_
    exact ex_ret (v := (some (.long x3))) hS hC rfl rfl rfl k
  · replace k := k.2 (h)
    refine ex_many (pc' := 20) (ls' := [.ref 0, .long x1, .null, .long x3, .null, .int x5, .int 0]) (st' := []) (mem' := mem) hS hC 2 rfl ?_
    exact k

set_option maxRecDepth 20000 in
theorem bk_X9_goodsInto_20 {ro : pm_RO} {Q : Option Value → pm_M → Prop} {mem : pm_M} {x5 x6 : Int32} {x1 x3 : Int64} (k : (2 < x6 → pm_Ex ro m_X9_good 0 [.ref 0, .int x5, .int 0] [] mem (fun v m => pm_Ex ro m_X9_goodsInto 61 [.ref 0, .long x1, .null, .long x3, .null, .int x5, .int x6] (v.toList ++ [.ref 0, .long (31 * x3)]) m Q)) ∧ (¬ (2 < x6) → pm_Ex ro m_X9_good 0 [.ref 0, .int x5, .int x6] [] mem (fun v m => pm_Ex ro m_X9_goodsInto 39 [.ref 0, .long x1, .null, .long x3, .null, .int x5, .int x6] (v.toList ++ [.long (31 * x3)]) m Q))) : pm_Ex ro m_X9_goodsInto 20 [.ref 0, .long x1, .null, .long x3, .null, .int x5, .int x6] [] mem Q := by
  have hS : pm_sig[m_X9_goodsInto]? = some _ := rfl
  have hC : pm_cod[m_X9_goodsInto]? = some _ := rfl
  refine ex_many (pc' := 23) (ls' := [.ref 0, .long x1, .null, .long x3, .null, .int x5, .int x6]) (st' := [.int 2, .int x6]) (mem' := mem) hS hC 2 rfl ?_
  refine ex_br (P := 2 < x6) (a := 48) (b := 26) (ls' := [.ref 0, .long x1, .null, .long x3, .null, .int x5, .int x6]) (st' := []) (mem' := mem) hS hC rfl (fun h => ?_) (fun h => ?_)
  · replace k := k.1 (h)
    refine ex_many (pc' := 58) (ls' := [.ref 0, .long x1, .null, .long x3, .null, .int x5, .int x6]) (st' := [.int 0, .int x5, .ref 0, .ref 0, .long (31 * x3)]) (mem' := mem) hS hC 7 rfl ?_
    refine ex_call (y' := m_X9_good) (rest := [.ref 0, .long (31 * x3)]) (ent := [.ref 0, .int x5, .int 0]) hS hC rfl rfl rfl rfl rfl rfl ?_
    exact k
  · replace k := k.2 (h)
    refine ex_many (pc' := 36) (ls' := [.ref 0, .long x1, .null, .long x3, .null, .int x5, .int x6]) (st' := [.int x6, .int x5, .ref 0, .long (31 * x3)]) (mem' := mem) hS hC 6 rfl ?_
    refine ex_call (y' := m_X9_good) (rest := [.long (31 * x3)]) (ent := [.ref 0, .int x5, .int x6]) hS hC rfl rfl rfl rfl rfl rfl ?_
    exact k

set_option maxRecDepth 20000 in
theorem bk_X9_goodsInto_39 {ro : pm_RO} {Q : Option Value → pm_M → Prop} {mem : pm_M} {x5 x6 s0 : Int32} {x1 x3 s1 : Int64} (k : pm_Ex ro m_X9_goodsInto 20 [.ref 0, .long x1, .null, .long (s1 + s0.toInt64), .null, .int x5, .int (x6 + 1)] [] mem Q) : pm_Ex ro m_X9_goodsInto 39 [.ref 0, .long x1, .null, .long x3, .null, .int x5, .int x6] [.int s0, .long s1] mem Q := by
  have hS : pm_sig[m_X9_goodsInto]? = some _ := rfl
  have hC : pm_cod[m_X9_goodsInto]? = some _ := rfl
  refine ex_many (pc' := 20) (ls' := [.ref 0, .long x1, .null, .long (s1 + s0.toInt64), .null, .int x5, .int (x6 + 1)]) (st' := []) (mem' := mem) hS hC 5 rfl ?_
  exact k

set_option maxRecDepth 20000 in
theorem bk_X9_goodsInto_61 {ro : pm_RO} {Q : Option Value → pm_M → Prop} {mem : pm_M} {x5 x6 s0 : Int32} {x1 x3 s2 : Int64} (k : pm_Ex ro m_X9_paid 0 [.ref 0, .int s0] [] mem (fun v m => pm_Ex ro m_X9_goodsInto 64 [.ref 0, .long x1, .null, .long x3, .null, .int x5, .int x6] (v.toList ++ [.long s2]) m Q)) : pm_Ex ro m_X9_goodsInto 61 [.ref 0, .long x1, .null, .long x3, .null, .int x5, .int x6] [.int s0, .ref 0, .long s2] mem Q := by
  have hS : pm_sig[m_X9_goodsInto]? = some _ := rfl
  have hC : pm_cod[m_X9_goodsInto]? = some _ := rfl
  refine ex_call (y' := m_X9_paid) (rest := [.long s2]) (ent := [.ref 0, .int s0]) hS hC rfl rfl rfl rfl rfl rfl ?_
  exact k

set_option maxRecDepth 20000 in
theorem bk_X9_goodsInto_64 {ro : pm_RO} {Q : Option Value → pm_M → Prop} {mem : pm_M} {x5 x6 s0 : Int32} {x1 x3 s1 : Int64} (k : pm_Ex ro m_X9_raised 0 [.ref 0, .int x5, .int 20] [] mem (fun v m => pm_Ex ro m_X9_goodsInto 80 [.ref 0, .long x1, .null, .long (s1 + s0.toInt64), .null, .int x5, .int x6] (v.toList ++ [.long (31 * (s1 + s0.toInt64))]) m Q)) : pm_Ex ro m_X9_goodsInto 64 [.ref 0, .long x1, .null, .long x3, .null, .int x5, .int x6] [.int s0, .long s1] mem Q := by
  have hS : pm_sig[m_X9_goodsInto]? = some _ := rfl
  have hC : pm_cod[m_X9_goodsInto]? = some _ := rfl
  refine ex_many (pc' := 77) (ls' := [.ref 0, .long x1, .null, .long (s1 + s0.toInt64), .null, .int x5, .int x6]) (st' := [.int 20, .int x5, .ref 0, .long (31 * (s1 + s0.toInt64))]) (mem' := mem) hS hC 9 rfl ?_
  refine ex_call (y' := m_X9_raised) (rest := [.long (31 * (s1 + s0.toInt64))]) (ent := [.ref 0, .int x5, .int 20]) hS hC rfl rfl rfl rfl rfl rfl ?_
  exact k

set_option maxRecDepth 20000 in
theorem bk_X9_goodsInto_80 {ro : pm_RO} {Q : Option Value → pm_M → Prop} {mem : pm_M} {x5 x6 s0 : Int32} {x1 x3 s1 : Int64} (k : pm_Ex ro m_X9_goodsInto 5 [.ref 0, .long x1, .null, .long (s1 + s0.toInt64), .null, .int (x5 + 1), .int x6] [] mem Q) : pm_Ex ro m_X9_goodsInto 80 [.ref 0, .long x1, .null, .long x3, .null, .int x5, .int x6] [.int s0, .long s1] mem Q := by
  have hS : pm_sig[m_X9_goodsInto]? = some _ := rfl
  have hC : pm_cod[m_X9_goodsInto]? = some _ := rfl
  refine ex_many (pc' := 5) (ls' := [.ref 0, .long x1, .null, .long (s1 + s0.toInt64), .null, .int (x5 + 1), .int x6]) (st' := []) (mem' := mem) hS hC 5 rfl ?_
  exact k

set_option maxRecDepth 20000 in
theorem bk_X9_figuresInto_0 {ro : pm_RO} {Q : Option Value → pm_M → Prop} {mem : pm_M} {a1 : Int64} (k : pm_Ex ro m_X9_figuresInto 5 [.ref 0, .long a1, .null, .long a1, .null, .int 1, .null] [] mem Q) : pm_Ex ro m_X9_figuresInto 0 [.ref 0, .long a1, .null, .null, .null, .null, .null] [] mem Q := by
  have hS : pm_sig[m_X9_figuresInto]? = some _ := rfl
  have hC : pm_cod[m_X9_figuresInto]? = some _ := rfl
  refine ex_many (pc' := 5) (ls' := [.ref 0, .long a1, .null, .long a1, .null, .int 1, .null]) (st' := []) (mem' := mem) hS hC 4 rfl ?_
  exact k

set_option maxRecDepth 20000 in
theorem bk_X9_figuresInto_5 {ro : pm_RO} {Q : Option Value → pm_M → Prop} {mem : pm_M} {x5 : Int32} {x1 x3 : Int64} {d6 : Value} (k : (3 < x5 → Q (some (.long x3)) mem) ∧ (¬ (3 < x5) → pm_Ex ro m_X9_figuresInto 14 [.ref 0, .long x1, .null, .long x3, .null, .int x5, .int 0] [] mem Q)) : pm_Ex ro m_X9_figuresInto 5 [.ref 0, .long x1, .null, .long x3, .null, .int x5, d6] [] mem Q := by
  have hS : pm_sig[m_X9_figuresInto]? = some _ := rfl
  have hC : pm_cod[m_X9_figuresInto]? = some _ := rfl
  refine ex_many (pc' := 8) (ls' := [.ref 0, .long x1, .null, .long x3, .null, .int x5, d6]) (st' := [.int 3, .int x5]) (mem' := mem) hS hC 2 rfl ?_
  refine ex_br (P := 3 < x5) (a := 48) (b := 11) (ls' := [.ref 0, .long x1, .null, .long x3, .null, .int x5, d6]) (st' := []) (mem' := mem) hS hC rfl (fun h => ?_) (fun h => ?_)
  · replace k := k.1 (h)
    refine ex_many (pc' := 49) (ls' := [.ref 0, .long x1, .null, .long x3, .null, .int x5, d6]) (st' := [.long x3]) (mem' := mem) hS hC 1 rfl ?_
    exact ex_ret (v := (some (.long x3))) hS hC rfl rfl rfl k
  · replace k := k.2 (h)
    refine ex_many (pc' := 14) (ls' := [.ref 0, .long x1, .null, .long x3, .null, .int x5, .int 0]) (st' := []) (mem' := mem) hS hC 2 rfl ?_
    exact k

set_option maxRecDepth 20000 in
theorem bk_X9_figuresInto_14 {ro : pm_RO} {Q : Option Value → pm_M → Prop} {mem : pm_M} {x5 x6 : Int32} {x1 x3 : Int64} (k : (3 < x6 → pm_Ex ro m_X9_figuresInto 5 [.ref 0, .long x1, .null, .long x3, .null, .int (x5 + 1), .int x6] [] mem Q) ∧ (¬ (3 < x6) → pm_Ex ro m_X9_figures 0 [.ref 0, .int x5, .int x6] [] mem (fun v m => pm_Ex ro m_X9_figuresInto 33 [.ref 0, .long x1, .null, .long x3, .null, .int x5, .int x6] (v.toList ++ [.long (31 * x3)]) m Q))) : pm_Ex ro m_X9_figuresInto 14 [.ref 0, .long x1, .null, .long x3, .null, .int x5, .int x6] [] mem Q := by
  have hS : pm_sig[m_X9_figuresInto]? = some _ := rfl
  have hC : pm_cod[m_X9_figuresInto]? = some _ := rfl
  refine ex_many (pc' := 17) (ls' := [.ref 0, .long x1, .null, .long x3, .null, .int x5, .int x6]) (st' := [.int 3, .int x6]) (mem' := mem) hS hC 2 rfl ?_
  refine ex_br (P := 3 < x6) (a := 42) (b := 20) (ls' := [.ref 0, .long x1, .null, .long x3, .null, .int x5, .int x6]) (st' := []) (mem' := mem) hS hC rfl (fun h => ?_) (fun h => ?_)
  · replace k := k.1 (h)
    refine ex_many (pc' := 5) (ls' := [.ref 0, .long x1, .null, .long x3, .null, .int (x5 + 1), .int x6]) (st' := []) (mem' := mem) hS hC 2 rfl ?_
    exact k
  · replace k := k.2 (h)
    refine ex_many (pc' := 30) (ls' := [.ref 0, .long x1, .null, .long x3, .null, .int x5, .int x6]) (st' := [.int x6, .int x5, .ref 0, .long (31 * x3)]) (mem' := mem) hS hC 6 rfl ?_
    refine ex_call (y' := m_X9_figures) (rest := [.long (31 * x3)]) (ent := [.ref 0, .int x5, .int x6]) hS hC rfl rfl rfl rfl rfl rfl ?_
    exact k

set_option maxRecDepth 20000 in
theorem bk_X9_figuresInto_33 {ro : pm_RO} {Q : Option Value → pm_M → Prop} {mem : pm_M} {x5 x6 s0 : Int32} {x1 x3 s1 : Int64} (k : pm_Ex ro m_X9_figuresInto 14 [.ref 0, .long x1, .null, .long (s1 + s0.toInt64), .null, .int x5, .int (x6 + 1)] [] mem Q) : pm_Ex ro m_X9_figuresInto 33 [.ref 0, .long x1, .null, .long x3, .null, .int x5, .int x6] [.int s0, .long s1] mem Q := by
  have hS : pm_sig[m_X9_figuresInto]? = some _ := rfl
  have hC : pm_cod[m_X9_figuresInto]? = some _ := rfl
  refine ex_many (pc' := 14) (ls' := [.ref 0, .long x1, .null, .long (s1 + s0.toInt64), .null, .int x5, .int (x6 + 1)]) (st' := []) (mem' := mem) hS hC 5 rfl ?_
  exact k

set_option maxRecDepth 20000 in
theorem bk_X9_digest_0 {ro : pm_RO} {Q : Option Value → pm_M → Prop} {mem : pm_M} (k : pm_Ex ro m_X9_digest 6 [.ref 0, .long 17, .null, .int 0] [] mem Q) : pm_Ex ro m_X9_digest 0 [.ref 0, .null, .null, .null] [] mem Q := by
  have hS : pm_sig[m_X9_digest]? = some _ := rfl
  have hC : pm_cod[m_X9_digest]? = some _ := rfl
  refine ex_many (pc' := 6) (ls' := [.ref 0, .long 17, .null, .int 0]) (st' := []) (mem' := mem) hS hC 4 rfl ?_
  exact k

set_option maxRecDepth 20000 in
theorem bk_X9_digest_6 {ro : pm_RO} {Q : Option Value → pm_M → Prop} {mem : pm_M} {x3 : Int32} {x1 : Int64} (k : (7 < x3 → pm_Ex ro m_X9_goodsInto 0 [.ref 0, .long ((31 * x1) + ((mem 3 5).toInt64)), .null, .null, .null, .null, .null] [] mem (fun v m => pm_Ex ro m_X9_digest 48 [.ref 0, .long ((31 * x1) + ((mem 3 5).toInt64)), .null, .int x3] (v.toList ++ []) m Q)) ∧ (¬ (7 < x3) → pm_Ex ro m_X9_count 0 [.ref 0, .int x3] [] mem (fun v m => pm_Ex ro m_X9_digest 22 [.ref 0, .long x1, .null, .int x3] (v.toList ++ [.long (31 * x1)]) m Q))) : pm_Ex ro m_X9_digest 6 [.ref 0, .long x1, .null, .int x3] [] mem Q := by
  have hS : pm_sig[m_X9_digest]? = some _ := rfl
  have hC : pm_cod[m_X9_digest]? = some _ := rfl
  refine ex_many (pc' := 9) (ls' := [.ref 0, .long x1, .null, .int x3]) (st' := [.int 7, .int x3]) (mem' := mem) hS hC 2 rfl ?_
  refine ex_br (P := 7 < x3) (a := 31) (b := 12) (ls' := [.ref 0, .long x1, .null, .int x3]) (st' := []) (mem' := mem) hS hC rfl (fun h => ?_) (fun h => ?_)
  · replace k := k.1 (h)
    refine ex_many (pc' := 37) (ls' := [.ref 0, .long x1, .null, .int x3]) (st' := [.ref 0, .long (31 * x1)]) (mem' := mem) hS hC 4 rfl ?_
    refine ex_call (y' := m_X9_fault) (rest := [.long (31 * x1)]) (ent := [.ref 0]) hS hC rfl rfl rfl rfl rfl rfl ?_
    refine bk_X9_fault_0 ?_
    show pm_Ex ro m_X9_digest 40 [.ref 0, .long x1, .null, .int x3] [.int (mem 3 5), .long (31 * x1)] mem Q
    refine ex_many (pc' := 45) (ls' := [.ref 0, .long ((31 * x1) + ((mem 3 5).toInt64)), .null, .int x3]) (st' := [.long ((31 * x1) + ((mem 3 5).toInt64)), .ref 0]) (mem' := mem) hS hC 5 rfl ?_
    refine ex_call (y' := m_X9_goodsInto) (rest := []) (ent := [.ref 0, .long ((31 * x1) + ((mem 3 5).toInt64)), .null, .null, .null, .null, .null]) hS hC rfl rfl rfl rfl rfl rfl ?_
    exact k
  · replace k := k.2 (h)
    refine ex_many (pc' := 19) (ls' := [.ref 0, .long x1, .null, .int x3]) (st' := [.int x3, .ref 0, .long (31 * x1)]) (mem' := mem) hS hC 5 rfl ?_
    refine ex_call (y' := m_X9_count) (rest := [.long (31 * x1)]) (ent := [.ref 0, .int x3]) hS hC rfl rfl rfl rfl rfl rfl ?_
    exact k

set_option maxRecDepth 20000 in
theorem bk_X9_digest_51 {ro : pm_RO} {Q : Option Value → pm_M → Prop} {mem : pm_M} {x3 : Int32} {x1 : Int64} (k : (3 < x3 → pm_Ex ro m_X9_added 0 [.ref 0, .int 120, .null, .null, .null, .null] [] mem (fun v m => pm_Ex ro m_X9_digest 86 [.ref 0, .long x1, .null, .int x3] (v.toList ++ [.long (31 * x1)]) m Q)) ∧ (¬ (3 < x3) → pm_Ex ro m_X9_bought 0 [.ref 0, .int x3] [] mem (fun v m => pm_Ex ro m_X9_digest 66 [.ref 0, .long x1, .null, .int x3] (v.toList ++ [.long (31 * x1)]) m Q))) : pm_Ex ro m_X9_digest 51 [.ref 0, .long x1, .null, .int x3] [] mem Q := by
  have hS : pm_sig[m_X9_digest]? = some _ := rfl
  have hC : pm_cod[m_X9_digest]? = some _ := rfl
  refine ex_many (pc' := 53) (ls' := [.ref 0, .long x1, .null, .int x3]) (st' := [.int 3, .int x3]) (mem' := mem) hS hC 2 rfl ?_
  refine ex_br (P := 3 < x3) (a := 75) (b := 56) (ls' := [.ref 0, .long x1, .null, .int x3]) (st' := []) (mem' := mem) hS hC rfl (fun h => ?_) (fun h => ?_)
  · replace k := k.1 (h)
    refine ex_many (pc' := 83) (ls' := [.ref 0, .long x1, .null, .int x3]) (st' := [.int 120, .ref 0, .long (31 * x1)]) (mem' := mem) hS hC 5 rfl ?_
    refine ex_call (y' := m_X9_added) (rest := [.long (31 * x1)]) (ent := [.ref 0, .int 120, .null, .null, .null, .null]) hS hC rfl rfl rfl rfl rfl rfl ?_
    exact k
  · replace k := k.2 (h)
    refine ex_many (pc' := 63) (ls' := [.ref 0, .long x1, .null, .int x3]) (st' := [.int x3, .ref 0, .long (31 * x1)]) (mem' := mem) hS hC 5 rfl ?_
    refine ex_call (y' := m_X9_bought) (rest := [.long (31 * x1)]) (ent := [.ref 0, .int x3]) hS hC rfl rfl rfl rfl rfl rfl ?_
    exact k

set_option maxRecDepth 20000 in
theorem bk_X9_digest_121 {ro : pm_RO} {Q : Option Value → pm_M → Prop} {mem : pm_M} {x3 : Int32} {x1 : Int64} (k : (2 < x3 → pm_Ex ro m_X9_figuresInto 0 [.ref 0, .long x1, .null, .null, .null, .null, .null] [] mem (fun v m => pm_Ex ro m_X9_digest 155 [.ref 0, .long x1, .null, .int x3] (v.toList ++ []) m Q)) ∧ (¬ (2 < x3) → pm_Ex ro m_X9_rounds 0 [.ref 0, .int 500, .int 21, .int x3] [] mem (fun v m => pm_Ex ro m_X9_digest 141 [.ref 0, .long x1, .null, .int x3] (v.toList ++ [.long (31 * x1)]) m Q))) : pm_Ex ro m_X9_digest 121 [.ref 0, .long x1, .null, .int x3] [] mem Q := by
  have hS : pm_sig[m_X9_digest]? = some _ := rfl
  have hC : pm_cod[m_X9_digest]? = some _ := rfl
  refine ex_many (pc' := 123) (ls' := [.ref 0, .long x1, .null, .int x3]) (st' := [.int 2, .int x3]) (mem' := mem) hS hC 2 rfl ?_
  refine ex_br (P := 2 < x3) (a := 150) (b := 126) (ls' := [.ref 0, .long x1, .null, .int x3]) (st' := []) (mem' := mem) hS hC rfl (fun h => ?_) (fun h => ?_)
  · replace k := k.1 (h)
    refine ex_many (pc' := 152) (ls' := [.ref 0, .long x1, .null, .int x3]) (st' := [.long x1, .ref 0]) (mem' := mem) hS hC 2 rfl ?_
    refine ex_call (y' := m_X9_figuresInto) (rest := []) (ent := [.ref 0, .long x1, .null, .null, .null, .null, .null]) hS hC rfl rfl rfl rfl rfl rfl ?_
    exact k
  · replace k := k.2 (h)
    refine ex_many (pc' := 138) (ls' := [.ref 0, .long x1, .null, .int x3]) (st' := [.int x3, .int 21, .int 500, .ref 0, .long (31 * x1)]) (mem' := mem) hS hC 7 rfl ?_
    refine ex_call (y' := m_X9_rounds) (rest := [.long (31 * x1)]) (ent := [.ref 0, .int 500, .int 21, .int x3]) hS hC rfl rfl rfl rfl rfl rfl ?_
    exact k

set_option maxRecDepth 20000 in
theorem bk_X9_digest_190 {ro : pm_RO} {Q : Option Value → pm_M → Prop} {mem : pm_M} {x3 : Int32} {x1 : Int64} (k : (4 ≤ x3 → pm_Ex ro m_X9_game 0 [.ref 0, .int 5, .int 14, .int 31, .int 0, .null] [] mem (fun v m => pm_Ex ro m_X9_digest 242 [.ref 0, .long x1, .null, .int x3] (v.toList ++ [.long (31 * x1)]) m Q)) ∧ (¬ (4 ≤ x3) → pm_Ex ro m_X9_share 0 [.ref 0, .int x3, .int 0, .null, .null, .null] [] mem (fun v m => pm_Ex ro m_X9_digest 206 [.ref 0, .long x1, .null, .int x3] (v.toList ++ [.long (31 * x1)]) m Q))) : pm_Ex ro m_X9_digest 190 [.ref 0, .long x1, .null, .int x3] [] mem Q := by
  have hS : pm_sig[m_X9_digest]? = some _ := rfl
  have hC : pm_cod[m_X9_digest]? = some _ := rfl
  refine ex_many (pc' := 192) (ls' := [.ref 0, .long x1, .null, .int x3]) (st' := [.int 4, .int x3]) (mem' := mem) hS hC 2 rfl ?_
  refine ex_br (P := 4 ≤ x3) (a := 227) (b := 195) (ls' := [.ref 0, .long x1, .null, .int x3]) (st' := []) (mem' := mem) hS hC rfl (fun h => ?_) (fun h => ?_)
  · replace k := k.1 (h)
    refine ex_many (pc' := 239) (ls' := [.ref 0, .long x1, .null, .int x3]) (st' := [.int 0, .int 31, .int 14, .int 5, .ref 0, .long (31 * x1)]) (mem' := mem) hS hC 8 rfl ?_
    refine ex_call (y' := m_X9_game) (rest := [.long (31 * x1)]) (ent := [.ref 0, .int 5, .int 14, .int 31, .int 0, .null]) hS hC rfl rfl rfl rfl rfl rfl ?_
    exact k
  · replace k := k.2 (h)
    refine ex_many (pc' := 203) (ls' := [.ref 0, .long x1, .null, .int x3]) (st' := [.int 0, .int x3, .ref 0, .long (31 * x1)]) (mem' := mem) hS hC 6 rfl ?_
    refine ex_call (y' := m_X9_share) (rest := [.long (31 * x1)]) (ent := [.ref 0, .int x3, .int 0, .null, .null, .null]) hS hC rfl rfl rfl rfl rfl rfl ?_
    exact k

set_option maxRecDepth 20000 in
theorem bk_X9_digest_22 {ro : pm_RO} {Q : Option Value → pm_M → Prop} {mem : pm_M} {x3 s0 : Int32} {x1 s1 : Int64} (k : pm_Ex ro m_X9_digest 6 [.ref 0, .long (s1 + s0.toInt64), .null, .int (x3 + 1)] [] mem Q) : pm_Ex ro m_X9_digest 22 [.ref 0, .long x1, .null, .int x3] [.int s0, .long s1] mem Q := by
  have hS : pm_sig[m_X9_digest]? = some _ := rfl
  have hC : pm_cod[m_X9_digest]? = some _ := rfl
  refine ex_many (pc' := 6) (ls' := [.ref 0, .long (s1 + s0.toInt64), .null, .int (x3 + 1)]) (st' := []) (mem' := mem) hS hC 5 rfl ?_
  exact k

set_option maxRecDepth 20000 in
theorem bk_X9_digest_48 {ro : pm_RO} {Q : Option Value → pm_M → Prop} {mem : pm_M} {x3 : Int32} {x1 s0 : Int64} (k : pm_Ex ro m_X9_digest 51 [.ref 0, .long s0, .null, .int 0] [] mem Q) : pm_Ex ro m_X9_digest 48 [.ref 0, .long x1, .null, .int x3] [.long s0] mem Q := by
  have hS : pm_sig[m_X9_digest]? = some _ := rfl
  have hC : pm_cod[m_X9_digest]? = some _ := rfl
  refine ex_many (pc' := 51) (ls' := [.ref 0, .long s0, .null, .int 0]) (st' := []) (mem' := mem) hS hC 3 rfl ?_
  exact k

set_option maxRecDepth 20000 in
theorem bk_X9_digest_66 {ro : pm_RO} {Q : Option Value → pm_M → Prop} {mem : pm_M} {x3 s0 : Int32} {x1 s1 : Int64} (k : pm_Ex ro m_X9_digest 51 [.ref 0, .long (s1 + s0.toInt64), .null, .int (x3 + 1)] [] mem Q) : pm_Ex ro m_X9_digest 66 [.ref 0, .long x1, .null, .int x3] [.int s0, .long s1] mem Q := by
  have hS : pm_sig[m_X9_digest]? = some _ := rfl
  have hC : pm_cod[m_X9_digest]? = some _ := rfl
  refine ex_many (pc' := 51) (ls' := [.ref 0, .long (s1 + s0.toInt64), .null, .int (x3 + 1)]) (st' := []) (mem' := mem) hS hC 5 rfl ?_
  exact k

set_option maxRecDepth 20000 in
theorem bk_X9_digest_86 {ro : pm_RO} {Q : Option Value → pm_M → Prop} {mem : pm_M} {x3 s0 : Int32} {x1 s1 : Int64} (k : pm_Ex ro m_X9_proof 0 [.ref 0, .int 8, .int 0, .null] [] mem (fun v m => pm_Ex ro m_X9_digest 101 [.ref 0, .long (s1 + s0.toInt64), .null, .int x3] (v.toList ++ [.long (31 * (s1 + s0.toInt64))]) m Q)) : pm_Ex ro m_X9_digest 86 [.ref 0, .long x1, .null, .int x3] [.int s0, .long s1] mem Q := by
  have hS : pm_sig[m_X9_digest]? = some _ := rfl
  have hC : pm_cod[m_X9_digest]? = some _ := rfl
  refine ex_many (pc' := 98) (ls' := [.ref 0, .long (s1 + s0.toInt64), .null, .int x3]) (st' := [.int 0, .int 8, .ref 0, .long (31 * (s1 + s0.toInt64))]) (mem' := mem) hS hC 9 rfl ?_
  refine ex_call (y' := m_X9_proof) (rest := [.long (31 * (s1 + s0.toInt64))]) (ent := [.ref 0, .int 8, .int 0, .null]) hS hC rfl rfl rfl rfl rfl rfl ?_
  exact k

set_option maxRecDepth 20000 in
theorem bk_X9_digest_141 {ro : pm_RO} {Q : Option Value → pm_M → Prop} {mem : pm_M} {x3 s0 : Int32} {x1 s1 : Int64} (k : pm_Ex ro m_X9_digest 121 [.ref 0, .long (s1 + s0.toInt64), .null, .int (x3 + 1)] [] mem Q) : pm_Ex ro m_X9_digest 141 [.ref 0, .long x1, .null, .int x3] [.int s0, .long s1] mem Q := by
  have hS : pm_sig[m_X9_digest]? = some _ := rfl
  have hC : pm_cod[m_X9_digest]? = some _ := rfl
  refine ex_many (pc' := 121) (ls' := [.ref 0, .long (s1 + s0.toInt64), .null, .int (x3 + 1)]) (st' := []) (mem' := mem) hS hC 5 rfl ?_
  exact k

set_option maxRecDepth 20000 in
theorem bk_X9_digest_155 {ro : pm_RO} {Q : Option Value → pm_M → Prop} {mem : pm_M} {x3 : Int32} {x1 s0 : Int64} (k : pm_Ex ro m_X9_rent 0 [.ref 0, .int 60, .int 3, .int 0] [] mem (fun v m => pm_Ex ro m_X9_digest 169 [.ref 0, .long s0, .null, .int x3] (v.toList ++ [.long (31 * s0)]) m Q)) : pm_Ex ro m_X9_digest 155 [.ref 0, .long x1, .null, .int x3] [.long s0] mem Q := by
  have hS : pm_sig[m_X9_digest]? = some _ := rfl
  have hC : pm_cod[m_X9_digest]? = some _ := rfl
  refine ex_many (pc' := 166) (ls' := [.ref 0, .long s0, .null, .int x3]) (st' := [.int 0, .int 3, .int 60, .ref 0, .long (31 * s0)]) (mem' := mem) hS hC 8 rfl ?_
  refine ex_call (y' := m_X9_rent) (rest := [.long (31 * s0)]) (ent := [.ref 0, .int 60, .int 3, .int 0]) hS hC rfl rfl rfl rfl rfl rfl ?_
  exact k

set_option maxRecDepth 20000 in
theorem bk_X9_digest_206 {ro : pm_RO} {Q : Option Value → pm_M → Prop} {mem : pm_M} {x3 : Int32} {x1 s0 s1 : Int64} (k : pm_Ex ro m_X9_share 0 [.ref 0, .int x3, .int 1, .null, .null, .null] [] mem (fun v m => pm_Ex ro m_X9_digest 219 [.ref 0, .long (s1 + s0), .null, .int x3] (v.toList ++ [.long (31 * (s1 + s0))]) m Q)) : pm_Ex ro m_X9_digest 206 [.ref 0, .long x1, .null, .int x3] [.long s0, .long s1] mem Q := by
  have hS : pm_sig[m_X9_digest]? = some _ := rfl
  have hC : pm_cod[m_X9_digest]? = some _ := rfl
  refine ex_many (pc' := 216) (ls' := [.ref 0, .long (s1 + s0), .null, .int x3]) (st' := [.int 1, .int x3, .ref 0, .long (31 * (s1 + s0))]) (mem' := mem) hS hC 8 rfl ?_
  refine ex_call (y' := m_X9_share) (rest := [.long (31 * (s1 + s0))]) (ent := [.ref 0, .int x3, .int 1, .null, .null, .null]) hS hC rfl rfl rfl rfl rfl rfl ?_
  exact k

set_option maxRecDepth 20000 in
theorem bk_X9_digest_242 {ro : pm_RO} {Q : Option Value → pm_M → Prop} {mem : pm_M} {x3 s0 : Int32} {x1 s1 : Int64} (k : pm_Ex ro m_X9_game 0 [.ref 0, .int 5, .int 14, .int 31, .int 1, .null] [] mem (fun v m => pm_Ex ro m_X9_digest 260 [.ref 0, .long (s1 + s0.toInt64), .null, .int x3] (v.toList ++ [.long (31 * (s1 + s0.toInt64))]) m Q)) : pm_Ex ro m_X9_digest 242 [.ref 0, .long x1, .null, .int x3] [.int s0, .long s1] mem Q := by
  have hS : pm_sig[m_X9_digest]? = some _ := rfl
  have hC : pm_cod[m_X9_digest]? = some _ := rfl
  refine ex_many (pc' := 257) (ls' := [.ref 0, .long (s1 + s0.toInt64), .null, .int x3]) (st' := [.int 1, .int 31, .int 14, .int 5, .ref 0, .long (31 * (s1 + s0.toInt64))]) (mem' := mem) hS hC 11 rfl ?_
  refine ex_call (y' := m_X9_game) (rest := [.long (31 * (s1 + s0.toInt64))]) (ent := [.ref 0, .int 5, .int 14, .int 31, .int 1, .null]) hS hC rfl rfl rfl rfl rfl rfl ?_
  exact k

set_option maxRecDepth 20000 in
theorem bk_X9_digest_101 {ro : pm_RO} {Q : Option Value → pm_M → Prop} {mem : pm_M} {x3 s0 : Int32} {x1 s1 : Int64} (k : pm_Ex ro m_X9_proof 0 [.ref 0, .int 8, .int 1, .null] [] mem (fun v m => pm_Ex ro m_X9_digest 116 [.ref 0, .long (s1 + s0.toInt64), .null, .int x3] (v.toList ++ [.long (31 * (s1 + s0.toInt64))]) m Q)) : pm_Ex ro m_X9_digest 101 [.ref 0, .long x1, .null, .int x3] [.int s0, .long s1] mem Q := by
  have hS : pm_sig[m_X9_digest]? = some _ := rfl
  have hC : pm_cod[m_X9_digest]? = some _ := rfl
  refine ex_many (pc' := 113) (ls' := [.ref 0, .long (s1 + s0.toInt64), .null, .int x3]) (st' := [.int 1, .int 8, .ref 0, .long (31 * (s1 + s0.toInt64))]) (mem' := mem) hS hC 9 rfl ?_
  refine ex_call (y' := m_X9_proof) (rest := [.long (31 * (s1 + s0.toInt64))]) (ent := [.ref 0, .int 8, .int 1, .null]) hS hC rfl rfl rfl rfl rfl rfl ?_
  exact k

set_option maxRecDepth 20000 in
theorem bk_X9_digest_169 {ro : pm_RO} {Q : Option Value → pm_M → Prop} {mem : pm_M} {x3 s0 : Int32} {x1 s1 : Int64} (k : pm_Ex ro m_X9_rent 0 [.ref 0, .int 60, .int 3, .int 1] [] mem (fun v m => pm_Ex ro m_X9_digest 185 [.ref 0, .long (s1 + s0.toInt64), .null, .int x3] (v.toList ++ [.long (31 * (s1 + s0.toInt64))]) m Q)) : pm_Ex ro m_X9_digest 169 [.ref 0, .long x1, .null, .int x3] [.int s0, .long s1] mem Q := by
  have hS : pm_sig[m_X9_digest]? = some _ := rfl
  have hC : pm_cod[m_X9_digest]? = some _ := rfl
  refine ex_many (pc' := 182) (ls' := [.ref 0, .long (s1 + s0.toInt64), .null, .int x3]) (st' := [.int 1, .int 3, .int 60, .ref 0, .long (31 * (s1 + s0.toInt64))]) (mem' := mem) hS hC 10 rfl ?_
  refine ex_call (y' := m_X9_rent) (rest := [.long (31 * (s1 + s0.toInt64))]) (ent := [.ref 0, .int 60, .int 3, .int 1]) hS hC rfl rfl rfl rfl rfl rfl ?_
  exact k

set_option maxRecDepth 20000 in
theorem bk_X9_digest_219 {ro : pm_RO} {Q : Option Value → pm_M → Prop} {mem : pm_M} {x3 : Int32} {x1 s0 s1 : Int64} (k : pm_Ex ro m_X9_digest 190 [.ref 0, .long (s1 + s0), .null, .int (x3 + 1)] [] mem Q) : pm_Ex ro m_X9_digest 219 [.ref 0, .long x1, .null, .int x3] [.long s0, .long s1] mem Q := by
  have hS : pm_sig[m_X9_digest]? = some _ := rfl
  have hC : pm_cod[m_X9_digest]? = some _ := rfl
  refine ex_many (pc' := 190) (ls' := [.ref 0, .long (s1 + s0), .null, .int (x3 + 1)]) (st' := []) (mem' := mem) hS hC 4 rfl ?_
  exact k

set_option maxRecDepth 20000 in
theorem bk_X9_digest_260 {ro : pm_RO} {Q : Option Value → pm_M → Prop} {mem : pm_M} {x3 s0 : Int32} {x1 s1 : Int64} (k : Q (some (.long (s1 + s0.toInt64))) mem) : pm_Ex ro m_X9_digest 260 [.ref 0, .long x1, .null, .int x3] [.int s0, .long s1] mem Q := by
  have hS : pm_sig[m_X9_digest]? = some _ := rfl
  have hC : pm_cod[m_X9_digest]? = some _ := rfl
  refine ex_many (pc' := 262) (ls' := [.ref 0, .long x1, .null, .int x3]) (st' := [.long (s1 + s0.toInt64)]) (mem' := mem) hS hC 2 rfl ?_
  exact ex_ret (v := (some (.long (s1 + s0.toInt64)))) hS hC rfl rfl rfl k

set_option maxRecDepth 20000 in
theorem bk_X9_digest_116 {ro : pm_RO} {Q : Option Value → pm_M → Prop} {mem : pm_M} {x3 s0 : Int32} {x1 s1 : Int64} (k : pm_Ex ro m_X9_digest 121 [.ref 0, .long (s1 + s0.toInt64), .null, .int 0] [] mem Q) : pm_Ex ro m_X9_digest 116 [.ref 0, .long x1, .null, .int x3] [.int s0, .long s1] mem Q := by
  have hS : pm_sig[m_X9_digest]? = some _ := rfl
  have hC : pm_cod[m_X9_digest]? = some _ := rfl
  refine ex_many (pc' := 121) (ls' := [.ref 0, .long (s1 + s0.toInt64), .null, .int 0]) (st' := []) (mem' := mem) hS hC 5 rfl ?_
  exact k

set_option maxRecDepth 20000 in
theorem bk_X9_digest_185 {ro : pm_RO} {Q : Option Value → pm_M → Prop} {mem : pm_M} {x3 s0 : Int32} {x1 s1 : Int64} (k : pm_Ex ro m_X9_digest 190 [.ref 0, .long (s1 + s0.toInt64), .null, .int 0] [] mem Q) : pm_Ex ro m_X9_digest 185 [.ref 0, .long x1, .null, .int x3] [.int s0, .long s1] mem Q := by
  have hS : pm_sig[m_X9_digest]? = some _ := rfl
  have hC : pm_cod[m_X9_digest]? = some _ := rfl
  refine ex_many (pc' := 190) (ls' := [.ref 0, .long (s1 + s0.toInt64), .null, .int 0]) (st' := []) (mem' := mem) hS hC 5 rfl ?_
  exact k

