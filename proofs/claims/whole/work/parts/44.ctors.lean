set_option maxHeartbeats 8000000 in
set_option maxRecDepth 100000 in
theorem k_X2_init (l : Launch) (D : va_G) (cI cS : ClassId) (h0  sz : Nat) : Met l yX2_init (.code yX2_init cX2_init 1 none :: pm_tb) ({ frames := 1, cells := 1, slots := 4, locals := 12 }) (va_Pc [.ref h0] (kPre D cI cS [(h0, .inr (2, [.null]))] sz)) (va_Qv (fun _ : Unit => True) (fun _ t => ∃ a1 : Nat, va_P D classes [(h0, .inr (2, [.ref a1])), (a1, .inl (cI, 4, .inl (upd (upd (upd (upd (fun _ => 0) 0 10) 1 0) 2 0) 3 1)))] t.heap ∧ va_D (va_A [(h0, .inr (2, [.null]))] sz) [(h0, .inr (2, [.ref a1])), (a1, .inl (cI, 4, .inl (upd (upd (upd (upd (fun _ => 0) 0 10) 1 0) 2 0) 3 1)))]) (va_A [(h0, .inr (2, [.null]))] sz)) 1 4 (va_A [(h0, .inr (2, [.null]))] sz) := by
  refine Met.ofW (cc := cX2_init) (maxL := 1) (ret := none) (by decide) rfl ?_
  intro p e s m args below meth c s₁ B hml hv
  obtain ⟨rfl, hsz, hP, hK, hD0⟩ := hv
  have hx := B.exec
  have hb := B.bytes
  have hr := B.returns
  have hts := fun w (hw : w ∈ pm_tb) => atoms_spec (ws := .code yX2_init cX2_init 1 none :: pm_tb) B.pre w (List.mem_cons_of_mem _ hw)
  have hown : s.vm.findClass RX2 = some m.cls := findClass_of_methodNamed B.named
  have hlocks := B.notSynchronized
  have hin : meth.name = "<init>" := (name_of_methodNamed B.named B.method).1
  subst hsz
  have hD := hD0.self (sz := s.heap.size)
  generalize hAe : va_A [(h0, .inr (2, [.null]))] s.heap.size = A at hD ⊢
  have hA : ∀ q : Nat, s.heap.size ≤ q → A q := fun q h => by rw [← hAe]; exact Or.inr h
  have hS : va_S A s.heap s.heap [] := va_S.rf
  have hP : va_P D classes [(h0, .inr (2, [.null]))] s.heap := hP
  have hl := lv_entry ([.ref h0]) (n := 1) (Nat.le_of_ble_eq_true rfl)
  rw [lg_entry_eq]
  generalize (lg_sl ([.ref h0]) ++ List.replicate (1 - (lg_sl ([.ref h0])).length) Slot.unset).toArray = ls at hl ⊢
  have hl : lv_has ls 1 [(0, .ref h0)] := hl
  refine lv_aload_n hx hb dk_X2_init_0 rfl (lv_at hl 0 rfl) ?_
  refine W.objInit hx hb hown (pm_word hts rfl kw_74) (pm_word hts rfl kw_67) (pm_word hts rfl kw_68) rfl (by rw [hml]; exact hl.1) rfl dk_X2_init_1 (Nat.le_of_ble_eq_true rfl) (Nat.le_of_ble_eq_true rfl) ?_
  refine W.eq (g2 := F0 m 4 ls []) rfl ?_
  refine lv_aload_n hx hb dk_X2_init_4 rfl (lv_at hl 0 rfl) ?_
  refine lv_iconst (v := 4) hx hb dk_X2_init_5 (by decide) ?_
  refine va_newa (atype := .int) (ty := .int) (N' := 4) (a0 := (4, .inl (fun _ => 0))) hx hb (pm_word hts rfl kw_79) rfl hK hP hD hS hA (fun _ => rfl) (by decide) rfl (Nat.le_of_ble_eq_true rfl) (Nat.le_of_ble_eq_true rfl) (Nat.le_of_ble_eq_true rfl) dk_X2_init_6 (fun a1 cA H hK1 hP hD hS => ?_)
  obtain rfl : cI = cA := k_ci hK hK1
  have hP : va_P D classes [(h0, .inr (2, [.null])), (a1, .inl (cI, 4, .inl (fun _ => 0)))] H := hP
  have hD : va_D A [(h0, .inr (2, [.null])), (a1, .inl (cI, 4, .inl (fun _ => 0)))] := hD
  refine lv_dup hx hb dk_X2_init_8 rfl ?_
  refine lv_iconst (v := 0) hx hb dk_X2_init_9 (by decide) ?_
  refine lv_bipush (v := 10) hx hb dk_X2_init_10 (by decide) ?_
  refine va_iast hx hb hK hP hD hS 1 0 rfl rfl (show vp_in (0 : Int32) 4 from vp_in_nI (n := 0) (by decide) (by decide)) dk_X2_init_12 (fun H locs hP hD hS => ?_)
  have hP : va_P D classes [(h0, .inr (2, [.null])), (a1, .inl (cI, 4, .inl (upd (fun _ => 0) 0 10)))] H := hP
  have hD : va_D A [(h0, .inr (2, [.null])), (a1, .inl (cI, 4, .inl (upd (fun _ => 0) 0 10)))] := hD
  refine lv_dup hx hb dk_X2_init_13 rfl ?_
  refine lv_iconst (v := 1) hx hb dk_X2_init_14 (by decide) ?_
  refine lv_iconst (v := 0) hx hb dk_X2_init_15 (by decide) ?_
  refine va_iast hx hb hK hP hD hS 1 0 rfl rfl (show vp_in (1 : Int32) 4 from vp_in_nI (n := 1) (by decide) (by decide)) dk_X2_init_16 (fun H locs hP hD hS => ?_)
  have hP : va_P D classes [(h0, .inr (2, [.null])), (a1, .inl (cI, 4, .inl (upd (upd (fun _ => 0) 0 10) 1 0)))] H := hP
  have hD : va_D A [(h0, .inr (2, [.null])), (a1, .inl (cI, 4, .inl (upd (upd (fun _ => 0) 0 10) 1 0)))] := hD
  refine lv_dup hx hb dk_X2_init_17 rfl ?_
  refine lv_iconst (v := 2) hx hb dk_X2_init_18 (by decide) ?_
  refine lv_iconst (v := 0) hx hb dk_X2_init_19 (by decide) ?_
  refine va_iast hx hb hK hP hD hS 1 0 rfl rfl (show vp_in (2 : Int32) 4 from vp_in_nI (n := 2) (by decide) (by decide)) dk_X2_init_20 (fun H locs hP hD hS => ?_)
  have hP : va_P D classes [(h0, .inr (2, [.null])), (a1, .inl (cI, 4, .inl (upd (upd (upd (fun _ => 0) 0 10) 1 0) 2 0)))] H := hP
  have hD : va_D A [(h0, .inr (2, [.null])), (a1, .inl (cI, 4, .inl (upd (upd (upd (fun _ => 0) 0 10) 1 0) 2 0)))] := hD
  refine lv_dup hx hb dk_X2_init_21 rfl ?_
  refine lv_iconst (v := 3) hx hb dk_X2_init_22 (by decide) ?_
  refine lv_iconst (v := 1) hx hb dk_X2_init_23 (by decide) ?_
  refine va_iast hx hb hK hP hD hS 1 0 rfl rfl (show vp_in (3 : Int32) 4 from vp_in_nI (n := 3) (by decide) (by decide)) dk_X2_init_24 (fun H locs hP hD hS => ?_)
  have hP : va_P D classes [(h0, .inr (2, [.null])), (a1, .inl (cI, 4, .inl (upd (upd (upd (upd (fun _ => 0) 0 10) 1 0) 2 0) 3 1)))] H := hP
  have hD : va_D A [(h0, .inr (2, [.null])), (a1, .inl (cI, 4, .inl (upd (upd (upd (upd (fun _ => 0) 0 10) 1 0) 2 0) 3 1)))] := hD
  refine va_putF (D := D) (ci := 2) (v := .ref a1) (ty := .array .int) (C := RX2) (T := TX2) (N := 1) hx hb hts (pm_cls (a := 2) (q := (RX2, TX2, 1)) rfl).1 tyX2 tyX2_ok nmX2 hown hK hP hD hS 0 rfl rfl 0 (by decide) (pm_word hts rfl kw_75) (fun _ h9 => h9) rfl hin rfl (by decide +kernel) rfl rfl (Nat.le_of_ble_eq_true rfl) dk_X2_init_25 (fun H locs hP hD hS => ?_)
  have hP : va_P D classes [(h0, .inr (2, [.ref a1])), (a1, .inl (cI, 4, .inl (upd (upd (upd (upd (fun _ => 0) 0 10) 1 0) 2 0) 3 1)))] H := hP
  have hD : va_D A [(h0, .inr (2, [.ref a1])), (a1, .inl (cI, 4, .inl (upd (upd (upd (upd (fun _ => 0) 0 10) 1 0) 2 0) 3 1)))] := hD
  refine W.widen (k := 1) (n := 4) (Nat.le_of_ble_eq_true rfl) (Nat.le_of_ble_eq_true rfl) ?_
  exact W.vret hx hb hr (fun t ht hW => ⟨⟨(), rfl, trivial, a1, by rw [ht]; exact hP, hD⟩, hS.F ht⟩) hS.2.2 dk_X2_init_28
set_option maxHeartbeats 8000000 in
set_option maxRecDepth 100000 in
theorem k_X1_init (l : Launch) (D : va_G) (cI cS : ClassId) (h0  sz : Nat) : Met l yX1_init (.code yX1_init cX1_init 1 none :: pm_tb) ({ frames := 1, cells := 2, slots := 58, locals := 12 }) (va_Pc [.ref h0] (kPre D cI cS [(h0, .inr (1, [.null, .null, .int 0, .int 0, .int 0, .int 0]))] sz)) (va_Qv (fun _ : Unit => True) (fun _ t => ∃ a1 a2 : Nat, va_P D classes [(h0, .inr (1, [.ref a1, .ref a2, .int 0, .int 0, .int 0, .int (-1)])), (a1, .inl (cI, 50, .inl (fun _ => 0))), (a2, .inl (cI, 8, .inl (fun _ => 0)))] t.heap ∧ va_D (va_A [(h0, .inr (1, [.null, .null, .int 0, .int 0, .int 0, .int 0]))] sz) [(h0, .inr (1, [.ref a1, .ref a2, .int 0, .int 0, .int 0, .int (-1)])), (a1, .inl (cI, 50, .inl (fun _ => 0))), (a2, .inl (cI, 8, .inl (fun _ => 0)))]) (va_A [(h0, .inr (1, [.null, .null, .int 0, .int 0, .int 0, .int 0]))] sz)) 2 58 (va_A [(h0, .inr (1, [.null, .null, .int 0, .int 0, .int 0, .int 0]))] sz) := by
  refine Met.ofW (cc := cX1_init) (maxL := 1) (ret := none) (by decide) rfl ?_
  intro p e s m args below meth c s₁ B hml hv
  obtain ⟨rfl, hsz, hP, hK, hD0⟩ := hv
  have hx := B.exec
  have hb := B.bytes
  have hr := B.returns
  have hts := fun w (hw : w ∈ pm_tb) => atoms_spec (ws := .code yX1_init cX1_init 1 none :: pm_tb) B.pre w (List.mem_cons_of_mem _ hw)
  have hown : s.vm.findClass RX1 = some m.cls := findClass_of_methodNamed B.named
  have hlocks := B.notSynchronized
  have hin : meth.name = "<init>" := (name_of_methodNamed B.named B.method).1
  subst hsz
  have hD := hD0.self (sz := s.heap.size)
  generalize hAe : va_A [(h0, .inr (1, [.null, .null, .int 0, .int 0, .int 0, .int 0]))] s.heap.size = A at hD ⊢
  have hA : ∀ q : Nat, s.heap.size ≤ q → A q := fun q h => by rw [← hAe]; exact Or.inr h
  have hS : va_S A s.heap s.heap [] := va_S.rf
  have hP : va_P D classes [(h0, .inr (1, [.null, .null, .int 0, .int 0, .int 0, .int 0]))] s.heap := hP
  have hl := lv_entry ([.ref h0]) (n := 1) (Nat.le_of_ble_eq_true rfl)
  rw [lg_entry_eq]
  generalize (lg_sl ([.ref h0]) ++ List.replicate (1 - (lg_sl ([.ref h0])).length) Slot.unset).toArray = ls at hl ⊢
  have hl : lv_has ls 1 [(0, .ref h0)] := hl
  refine lv_aload_n hx hb dk_X1_init_0 rfl (lv_at hl 0 rfl) ?_
  refine W.objInit hx hb hown (pm_word hts rfl kw_85) (pm_word hts rfl kw_67) (pm_word hts rfl kw_68) rfl (by rw [hml]; exact hl.1) rfl dk_X1_init_1 (Nat.le_of_ble_eq_true rfl) (Nat.le_of_ble_eq_true rfl) ?_
  refine W.eq (g2 := F0 m 4 ls []) rfl ?_
  refine lv_aload_n hx hb dk_X1_init_4 rfl (lv_at hl 0 rfl) ?_
  refine lv_bipush (v := 50) hx hb dk_X1_init_5 (by decide) ?_
  refine va_newa (atype := .int) (ty := .int) (N' := 50) (a0 := (50, .inl (fun _ => 0))) hx hb (pm_word hts rfl kw_79) rfl hK hP hD hS hA (fun _ => rfl) (by decide) rfl (Nat.le_of_ble_eq_true rfl) (Nat.le_of_ble_eq_true rfl) (Nat.le_of_ble_eq_true rfl) dk_X1_init_7 (fun a1 cA H hK1 hP hD hS => ?_)
  obtain rfl : cI = cA := k_ci hK hK1
  have hP : va_P D classes [(h0, .inr (1, [.null, .null, .int 0, .int 0, .int 0, .int 0])), (a1, .inl (cI, 50, .inl (fun _ => 0)))] H := hP
  have hD : va_D A [(h0, .inr (1, [.null, .null, .int 0, .int 0, .int 0, .int 0])), (a1, .inl (cI, 50, .inl (fun _ => 0)))] := hD
  refine va_putF (D := D) (ci := 1) (v := .ref a1) (ty := .array .int) (C := RX1) (T := TX1) (N := 6) hx hb hts (pm_cls (a := 1) (q := (RX1, TX1, 6)) rfl).1 tyX1 tyX1_ok nmX1 hown hK hP hD hS 0 rfl rfl 0 (by decide) (pm_word hts rfl kw_86) (fun _ h9 => h9) rfl hin rfl (by decide +kernel) rfl rfl (Nat.le_of_ble_eq_true rfl) dk_X1_init_9 (fun H locs hP hD hS => ?_)
  have hP : va_P D classes [(h0, .inr (1, [.ref a1, .null, .int 0, .int 0, .int 0, .int 0])), (a1, .inl (cI, 50, .inl (fun _ => 0)))] H := hP
  have hD : va_D A [(h0, .inr (1, [.ref a1, .null, .int 0, .int 0, .int 0, .int 0])), (a1, .inl (cI, 50, .inl (fun _ => 0)))] := hD
  refine lv_aload_n hx hb dk_X1_init_12 rfl (lv_at hl 0 rfl) ?_
  refine lv_bipush (v := 8) hx hb dk_X1_init_13 (by decide) ?_
  refine va_newa (atype := .int) (ty := .int) (N' := 8) (a0 := (8, .inl (fun _ => 0))) hx hb (pm_word hts rfl kw_79) rfl hK hP hD hS hA (fun _ => rfl) (by decide) rfl (Nat.le_of_ble_eq_true rfl) (Nat.le_of_ble_eq_true rfl) (Nat.le_of_ble_eq_true rfl) dk_X1_init_15 (fun a2 cA H hK1 hP hD hS => ?_)
  obtain rfl : cI = cA := k_ci hK hK1
  have hP : va_P D classes [(h0, .inr (1, [.ref a1, .null, .int 0, .int 0, .int 0, .int 0])), (a1, .inl (cI, 50, .inl (fun _ => 0))), (a2, .inl (cI, 8, .inl (fun _ => 0)))] H := hP
  have hD : va_D A [(h0, .inr (1, [.ref a1, .null, .int 0, .int 0, .int 0, .int 0])), (a1, .inl (cI, 50, .inl (fun _ => 0))), (a2, .inl (cI, 8, .inl (fun _ => 0)))] := hD
  refine va_putF (D := D) (ci := 1) (v := .ref a2) (ty := .array .int) (C := RX1) (T := TX1) (N := 6) hx hb hts (pm_cls (a := 1) (q := (RX1, TX1, 6)) rfl).1 tyX1 tyX1_ok nmX1 hown hK hP hD hS 0 rfl rfl 1 (by decide) (pm_word hts rfl kw_87) (fun _ h9 => h9) rfl hin rfl (by decide +kernel) rfl rfl (Nat.le_of_ble_eq_true rfl) dk_X1_init_17 (fun H locs hP hD hS => ?_)
  have hP : va_P D classes [(h0, .inr (1, [.ref a1, .ref a2, .int 0, .int 0, .int 0, .int 0])), (a1, .inl (cI, 50, .inl (fun _ => 0))), (a2, .inl (cI, 8, .inl (fun _ => 0)))] H := hP
  have hD : va_D A [(h0, .inr (1, [.ref a1, .ref a2, .int 0, .int 0, .int 0, .int 0])), (a1, .inl (cI, 50, .inl (fun _ => 0))), (a2, .inl (cI, 8, .inl (fun _ => 0)))] := hD
  refine lv_aload_n hx hb dk_X1_init_20 rfl (lv_at hl 0 rfl) ?_
  refine lv_iconst (v := 0) hx hb dk_X1_init_21 (by decide) ?_
  refine va_put (D := D) (ci := 1) (v := .int 0) (ty := .int) (C := RX1) (T := TX1) (N := 6) hx hb hts (pm_cls (a := 1) (q := (RX1, TX1, 6)) rfl).1 tyX1 tyX1_ok nmX1 hown hK hP hD hS 0 rfl rfl 2 (by decide) (pm_word hts rfl kw_88) (fun _ h9 => h9) rfl (by decide +kernel) rfl rfl (Nat.le_of_ble_eq_true rfl) dk_X1_init_22 (fun H locs hP hD hS => ?_)
  have hP : va_P D classes [(h0, .inr (1, [.ref a1, .ref a2, .int 0, .int 0, .int 0, .int 0])), (a1, .inl (cI, 50, .inl (fun _ => 0))), (a2, .inl (cI, 8, .inl (fun _ => 0)))] H := hP
  have hD : va_D A [(h0, .inr (1, [.ref a1, .ref a2, .int 0, .int 0, .int 0, .int 0])), (a1, .inl (cI, 50, .inl (fun _ => 0))), (a2, .inl (cI, 8, .inl (fun _ => 0)))] := hD
  refine lv_aload_n hx hb dk_X1_init_25 rfl (lv_at hl 0 rfl) ?_
  refine lv_iconst (v := 0) hx hb dk_X1_init_26 (by decide) ?_
  refine va_put (D := D) (ci := 1) (v := .int 0) (ty := .int) (C := RX1) (T := TX1) (N := 6) hx hb hts (pm_cls (a := 1) (q := (RX1, TX1, 6)) rfl).1 tyX1 tyX1_ok nmX1 hown hK hP hD hS 0 rfl rfl 3 (by decide) (pm_word hts rfl kw_89) (fun _ h9 => h9) rfl (by decide +kernel) rfl rfl (Nat.le_of_ble_eq_true rfl) dk_X1_init_27 (fun H locs hP hD hS => ?_)
  have hP : va_P D classes [(h0, .inr (1, [.ref a1, .ref a2, .int 0, .int 0, .int 0, .int 0])), (a1, .inl (cI, 50, .inl (fun _ => 0))), (a2, .inl (cI, 8, .inl (fun _ => 0)))] H := hP
  have hD : va_D A [(h0, .inr (1, [.ref a1, .ref a2, .int 0, .int 0, .int 0, .int 0])), (a1, .inl (cI, 50, .inl (fun _ => 0))), (a2, .inl (cI, 8, .inl (fun _ => 0)))] := hD
  refine lv_aload_n hx hb dk_X1_init_30 rfl (lv_at hl 0 rfl) ?_
  refine lv_iconst (v := 0) hx hb dk_X1_init_31 (by decide) ?_
  refine va_put (D := D) (ci := 1) (v := .int 0) (ty := .int) (C := RX1) (T := TX1) (N := 6) hx hb hts (pm_cls (a := 1) (q := (RX1, TX1, 6)) rfl).1 tyX1 tyX1_ok nmX1 hown hK hP hD hS 0 rfl rfl 4 (by decide) (pm_word hts rfl kw_90) (fun _ h9 => h9) rfl (by decide +kernel) rfl rfl (Nat.le_of_ble_eq_true rfl) dk_X1_init_32 (fun H locs hP hD hS => ?_)
  have hP : va_P D classes [(h0, .inr (1, [.ref a1, .ref a2, .int 0, .int 0, .int 0, .int 0])), (a1, .inl (cI, 50, .inl (fun _ => 0))), (a2, .inl (cI, 8, .inl (fun _ => 0)))] H := hP
  have hD : va_D A [(h0, .inr (1, [.ref a1, .ref a2, .int 0, .int 0, .int 0, .int 0])), (a1, .inl (cI, 50, .inl (fun _ => 0))), (a2, .inl (cI, 8, .inl (fun _ => 0)))] := hD
  refine lv_aload_n hx hb dk_X1_init_35 rfl (lv_at hl 0 rfl) ?_
  refine lv_iconst (v := (-1)) hx hb dk_X1_init_36 (by decide) ?_
  refine va_put (D := D) (ci := 1) (v := .int (-1)) (ty := .int) (C := RX1) (T := TX1) (N := 6) hx hb hts (pm_cls (a := 1) (q := (RX1, TX1, 6)) rfl).1 tyX1 tyX1_ok nmX1 hown hK hP hD hS 0 rfl rfl 5 (by decide) (pm_word hts rfl kw_91) (fun _ h9 => h9) rfl (by decide +kernel) rfl rfl (Nat.le_of_ble_eq_true rfl) dk_X1_init_37 (fun H locs hP hD hS => ?_)
  have hP : va_P D classes [(h0, .inr (1, [.ref a1, .ref a2, .int 0, .int 0, .int 0, .int (-1)])), (a1, .inl (cI, 50, .inl (fun _ => 0))), (a2, .inl (cI, 8, .inl (fun _ => 0)))] H := hP
  have hD : va_D A [(h0, .inr (1, [.ref a1, .ref a2, .int 0, .int 0, .int 0, .int (-1)])), (a1, .inl (cI, 50, .inl (fun _ => 0))), (a2, .inl (cI, 8, .inl (fun _ => 0)))] := hD
  refine W.widen (k := 2) (n := 58) (Nat.le_of_ble_eq_true rfl) (Nat.le_of_ble_eq_true rfl) ?_
  exact W.vret hx hb hr (fun t ht hW => ⟨⟨(), rfl, trivial, a1, a2, by rw [ht]; exact hP, hD⟩, hS.F ht⟩) hS.2.2 dk_X1_init_40
set_option maxHeartbeats 8000000 in
set_option maxRecDepth 100000 in
theorem k_X7_init (l : Launch) (D : va_G) (cI cS : ClassId) (h0 p1 p2 sz : Nat) : Met l yX7_init (.code yX7_init cX7_init 3 none :: pm_tb) ({ frames := 1, cells := 4, slots := 1024, locals := 12 }) (va_Pc [.ref h0, .ref p1, .ref p2] (kPre D cI cS [(h0, .inr (7, [.null, .null, .null, .null, .null, .null, .int 0, .int 0, .int 0, .int 0, .int 0, .int 0]))] sz)) (va_Qv (fun _ : Unit => True) (fun _ t => ∃ a1 a2 a3 a4 : Nat, va_P D classes [(h0, .inr (7, [.ref p1, .ref p2, .ref a1, .ref a2, .ref a3, .ref a4, .int 0, .int 0, .int 0, .int 0, .int 0, .int 0])), (a1, .inl (cI, 256, .inl (fun _ => 0))), (a2, .inl (cI, 256, .inl (fun _ => 0))), (a3, .inl (cI, 256, .inl (fun _ => 0))), (a4, .inl (cI, 256, .inl (fun _ => 0)))] t.heap ∧ va_D (va_A [(h0, .inr (7, [.null, .null, .null, .null, .null, .null, .int 0, .int 0, .int 0, .int 0, .int 0, .int 0]))] sz) [(h0, .inr (7, [.ref p1, .ref p2, .ref a1, .ref a2, .ref a3, .ref a4, .int 0, .int 0, .int 0, .int 0, .int 0, .int 0])), (a1, .inl (cI, 256, .inl (fun _ => 0))), (a2, .inl (cI, 256, .inl (fun _ => 0))), (a3, .inl (cI, 256, .inl (fun _ => 0))), (a4, .inl (cI, 256, .inl (fun _ => 0)))]) (va_A [(h0, .inr (7, [.null, .null, .null, .null, .null, .null, .int 0, .int 0, .int 0, .int 0, .int 0, .int 0]))] sz)) 4 1024 (va_A [(h0, .inr (7, [.null, .null, .null, .null, .null, .null, .int 0, .int 0, .int 0, .int 0, .int 0, .int 0]))] sz) := by
  refine Met.ofW (cc := cX7_init) (maxL := 3) (ret := none) (by decide) rfl ?_
  intro p e s m args below meth c s₁ B hml hv
  obtain ⟨rfl, hsz, hP, hK, hD0⟩ := hv
  have hx := B.exec
  have hb := B.bytes
  have hr := B.returns
  have hts := fun w (hw : w ∈ pm_tb) => atoms_spec (ws := .code yX7_init cX7_init 3 none :: pm_tb) B.pre w (List.mem_cons_of_mem _ hw)
  have hown : s.vm.findClass RX7 = some m.cls := findClass_of_methodNamed B.named
  have hlocks := B.notSynchronized
  have hin : meth.name = "<init>" := (name_of_methodNamed B.named B.method).1
  subst hsz
  have hD := hD0.self (sz := s.heap.size)
  generalize hAe : va_A [(h0, .inr (7, [.null, .null, .null, .null, .null, .null, .int 0, .int 0, .int 0, .int 0, .int 0, .int 0]))] s.heap.size = A at hD ⊢
  have hA : ∀ q : Nat, s.heap.size ≤ q → A q := fun q h => by rw [← hAe]; exact Or.inr h
  have hS : va_S A s.heap s.heap [] := va_S.rf
  have hP : va_P D classes [(h0, .inr (7, [.null, .null, .null, .null, .null, .null, .int 0, .int 0, .int 0, .int 0, .int 0, .int 0]))] s.heap := hP
  have hl := lv_entry ([.ref h0, .ref p1, .ref p2]) (n := 3) (Nat.le_of_ble_eq_true rfl)
  rw [lg_entry_eq]
  generalize (lg_sl ([.ref h0, .ref p1, .ref p2]) ++ List.replicate (3 - (lg_sl ([.ref h0, .ref p1, .ref p2])).length) Slot.unset).toArray = ls at hl ⊢
  have hl : lv_has ls 3 [(0, .ref h0), (1, .ref p1), (2, .ref p2)] := hl
  refine lv_aload_n hx hb dk_X7_init_0 rfl (lv_at hl 0 rfl) ?_
  refine W.objInit hx hb hown (pm_word hts rfl kw_110) (pm_word hts rfl kw_67) (pm_word hts rfl kw_68) rfl (by rw [hml]; exact hl.1) rfl dk_X7_init_1 (Nat.le_of_ble_eq_true rfl) (Nat.le_of_ble_eq_true rfl) ?_
  refine W.eq (g2 := F0 m 4 ls []) rfl ?_
  refine lv_aload_n hx hb dk_X7_init_4 rfl (lv_at hl 0 rfl) ?_
  refine lv_sipush (v := 256) hx hb dk_X7_init_5 (by decide) ?_
  refine va_newa (atype := .int) (ty := .int) (N' := 256) (a0 := (256, .inl (fun _ => 0))) hx hb (pm_word hts rfl kw_79) rfl hK hP hD hS hA (fun _ => rfl) (by decide) rfl (Nat.le_of_ble_eq_true rfl) (Nat.le_of_ble_eq_true rfl) (Nat.le_of_ble_eq_true rfl) dk_X7_init_8 (fun a1 cA H hK1 hP hD hS => ?_)
  obtain rfl : cI = cA := k_ci hK hK1
  have hP : va_P D classes [(h0, .inr (7, [.null, .null, .null, .null, .null, .null, .int 0, .int 0, .int 0, .int 0, .int 0, .int 0])), (a1, .inl (cI, 256, .inl (fun _ => 0)))] H := hP
  have hD : va_D A [(h0, .inr (7, [.null, .null, .null, .null, .null, .null, .int 0, .int 0, .int 0, .int 0, .int 0, .int 0])), (a1, .inl (cI, 256, .inl (fun _ => 0)))] := hD
  refine va_putF (D := D) (ci := 7) (v := .ref a1) (ty := .array .int) (C := RX7) (T := TX7) (N := 12) hx hb hts (pm_cls (a := 7) (q := (RX7, TX7, 12)) rfl).1 tyX7 tyX7_ok nmX7 hown hK hP hD hS 0 rfl rfl 2 (by decide) (pm_word hts rfl kw_113) (fun _ h9 => h9) rfl hin rfl (by decide +kernel) rfl rfl (Nat.le_of_ble_eq_true rfl) dk_X7_init_10 (fun H locs hP hD hS => ?_)
  have hP : va_P D classes [(h0, .inr (7, [.null, .null, .ref a1, .null, .null, .null, .int 0, .int 0, .int 0, .int 0, .int 0, .int 0])), (a1, .inl (cI, 256, .inl (fun _ => 0)))] H := hP
  have hD : va_D A [(h0, .inr (7, [.null, .null, .ref a1, .null, .null, .null, .int 0, .int 0, .int 0, .int 0, .int 0, .int 0])), (a1, .inl (cI, 256, .inl (fun _ => 0)))] := hD
  refine lv_aload_n hx hb dk_X7_init_13 rfl (lv_at hl 0 rfl) ?_
  refine lv_sipush (v := 256) hx hb dk_X7_init_14 (by decide) ?_
  refine va_newa (atype := .int) (ty := .int) (N' := 256) (a0 := (256, .inl (fun _ => 0))) hx hb (pm_word hts rfl kw_79) rfl hK hP hD hS hA (fun _ => rfl) (by decide) rfl (Nat.le_of_ble_eq_true rfl) (Nat.le_of_ble_eq_true rfl) (Nat.le_of_ble_eq_true rfl) dk_X7_init_17 (fun a2 cA H hK1 hP hD hS => ?_)
  obtain rfl : cI = cA := k_ci hK hK1
  have hP : va_P D classes [(h0, .inr (7, [.null, .null, .ref a1, .null, .null, .null, .int 0, .int 0, .int 0, .int 0, .int 0, .int 0])), (a1, .inl (cI, 256, .inl (fun _ => 0))), (a2, .inl (cI, 256, .inl (fun _ => 0)))] H := hP
  have hD : va_D A [(h0, .inr (7, [.null, .null, .ref a1, .null, .null, .null, .int 0, .int 0, .int 0, .int 0, .int 0, .int 0])), (a1, .inl (cI, 256, .inl (fun _ => 0))), (a2, .inl (cI, 256, .inl (fun _ => 0)))] := hD
  refine va_putF (D := D) (ci := 7) (v := .ref a2) (ty := .array .int) (C := RX7) (T := TX7) (N := 12) hx hb hts (pm_cls (a := 7) (q := (RX7, TX7, 12)) rfl).1 tyX7 tyX7_ok nmX7 hown hK hP hD hS 0 rfl rfl 3 (by decide) (pm_word hts rfl kw_114) (fun _ h9 => h9) rfl hin rfl (by decide +kernel) rfl rfl (Nat.le_of_ble_eq_true rfl) dk_X7_init_19 (fun H locs hP hD hS => ?_)
  have hP : va_P D classes [(h0, .inr (7, [.null, .null, .ref a1, .ref a2, .null, .null, .int 0, .int 0, .int 0, .int 0, .int 0, .int 0])), (a1, .inl (cI, 256, .inl (fun _ => 0))), (a2, .inl (cI, 256, .inl (fun _ => 0)))] H := hP
  have hD : va_D A [(h0, .inr (7, [.null, .null, .ref a1, .ref a2, .null, .null, .int 0, .int 0, .int 0, .int 0, .int 0, .int 0])), (a1, .inl (cI, 256, .inl (fun _ => 0))), (a2, .inl (cI, 256, .inl (fun _ => 0)))] := hD
  refine lv_aload_n hx hb dk_X7_init_22 rfl (lv_at hl 0 rfl) ?_
  refine lv_sipush (v := 256) hx hb dk_X7_init_23 (by decide) ?_
  refine va_newa (atype := .int) (ty := .int) (N' := 256) (a0 := (256, .inl (fun _ => 0))) hx hb (pm_word hts rfl kw_79) rfl hK hP hD hS hA (fun _ => rfl) (by decide) rfl (Nat.le_of_ble_eq_true rfl) (Nat.le_of_ble_eq_true rfl) (Nat.le_of_ble_eq_true rfl) dk_X7_init_26 (fun a3 cA H hK1 hP hD hS => ?_)
  obtain rfl : cI = cA := k_ci hK hK1
  have hP : va_P D classes [(h0, .inr (7, [.null, .null, .ref a1, .ref a2, .null, .null, .int 0, .int 0, .int 0, .int 0, .int 0, .int 0])), (a1, .inl (cI, 256, .inl (fun _ => 0))), (a2, .inl (cI, 256, .inl (fun _ => 0))), (a3, .inl (cI, 256, .inl (fun _ => 0)))] H := hP
  have hD : va_D A [(h0, .inr (7, [.null, .null, .ref a1, .ref a2, .null, .null, .int 0, .int 0, .int 0, .int 0, .int 0, .int 0])), (a1, .inl (cI, 256, .inl (fun _ => 0))), (a2, .inl (cI, 256, .inl (fun _ => 0))), (a3, .inl (cI, 256, .inl (fun _ => 0)))] := hD
  refine va_putF (D := D) (ci := 7) (v := .ref a3) (ty := .array .int) (C := RX7) (T := TX7) (N := 12) hx hb hts (pm_cls (a := 7) (q := (RX7, TX7, 12)) rfl).1 tyX7 tyX7_ok nmX7 hown hK hP hD hS 0 rfl rfl 4 (by decide) (pm_word hts rfl kw_115) (fun _ h9 => h9) rfl hin rfl (by decide +kernel) rfl rfl (Nat.le_of_ble_eq_true rfl) dk_X7_init_28 (fun H locs hP hD hS => ?_)
  have hP : va_P D classes [(h0, .inr (7, [.null, .null, .ref a1, .ref a2, .ref a3, .null, .int 0, .int 0, .int 0, .int 0, .int 0, .int 0])), (a1, .inl (cI, 256, .inl (fun _ => 0))), (a2, .inl (cI, 256, .inl (fun _ => 0))), (a3, .inl (cI, 256, .inl (fun _ => 0)))] H := hP
  have hD : va_D A [(h0, .inr (7, [.null, .null, .ref a1, .ref a2, .ref a3, .null, .int 0, .int 0, .int 0, .int 0, .int 0, .int 0])), (a1, .inl (cI, 256, .inl (fun _ => 0))), (a2, .inl (cI, 256, .inl (fun _ => 0))), (a3, .inl (cI, 256, .inl (fun _ => 0)))] := hD
  refine lv_aload_n hx hb dk_X7_init_31 rfl (lv_at hl 0 rfl) ?_
  refine lv_sipush (v := 256) hx hb dk_X7_init_32 (by decide) ?_
  refine va_newa (atype := .int) (ty := .int) (N' := 256) (a0 := (256, .inl (fun _ => 0))) hx hb (pm_word hts rfl kw_79) rfl hK hP hD hS hA (fun _ => rfl) (by decide) rfl (Nat.le_of_ble_eq_true rfl) (Nat.le_of_ble_eq_true rfl) (Nat.le_of_ble_eq_true rfl) dk_X7_init_35 (fun a4 cA H hK1 hP hD hS => ?_)
  obtain rfl : cI = cA := k_ci hK hK1
  have hP : va_P D classes [(h0, .inr (7, [.null, .null, .ref a1, .ref a2, .ref a3, .null, .int 0, .int 0, .int 0, .int 0, .int 0, .int 0])), (a1, .inl (cI, 256, .inl (fun _ => 0))), (a2, .inl (cI, 256, .inl (fun _ => 0))), (a3, .inl (cI, 256, .inl (fun _ => 0))), (a4, .inl (cI, 256, .inl (fun _ => 0)))] H := hP
  have hD : va_D A [(h0, .inr (7, [.null, .null, .ref a1, .ref a2, .ref a3, .null, .int 0, .int 0, .int 0, .int 0, .int 0, .int 0])), (a1, .inl (cI, 256, .inl (fun _ => 0))), (a2, .inl (cI, 256, .inl (fun _ => 0))), (a3, .inl (cI, 256, .inl (fun _ => 0))), (a4, .inl (cI, 256, .inl (fun _ => 0)))] := hD
  refine va_putF (D := D) (ci := 7) (v := .ref a4) (ty := .array .int) (C := RX7) (T := TX7) (N := 12) hx hb hts (pm_cls (a := 7) (q := (RX7, TX7, 12)) rfl).1 tyX7 tyX7_ok nmX7 hown hK hP hD hS 0 rfl rfl 5 (by decide) (pm_word hts rfl kw_116) (fun _ h9 => h9) rfl hin rfl (by decide +kernel) rfl rfl (Nat.le_of_ble_eq_true rfl) dk_X7_init_37 (fun H locs hP hD hS => ?_)
  have hP : va_P D classes [(h0, .inr (7, [.null, .null, .ref a1, .ref a2, .ref a3, .ref a4, .int 0, .int 0, .int 0, .int 0, .int 0, .int 0])), (a1, .inl (cI, 256, .inl (fun _ => 0))), (a2, .inl (cI, 256, .inl (fun _ => 0))), (a3, .inl (cI, 256, .inl (fun _ => 0))), (a4, .inl (cI, 256, .inl (fun _ => 0)))] H := hP
  have hD : va_D A [(h0, .inr (7, [.null, .null, .ref a1, .ref a2, .ref a3, .ref a4, .int 0, .int 0, .int 0, .int 0, .int 0, .int 0])), (a1, .inl (cI, 256, .inl (fun _ => 0))), (a2, .inl (cI, 256, .inl (fun _ => 0))), (a3, .inl (cI, 256, .inl (fun _ => 0))), (a4, .inl (cI, 256, .inl (fun _ => 0)))] := hD
  refine lv_aload_n hx hb dk_X7_init_40 rfl (lv_at hl 0 rfl) ?_
  refine lv_iconst (v := 0) hx hb dk_X7_init_41 (by decide) ?_
  refine va_put (D := D) (ci := 7) (v := .int 0) (ty := .boolean) (C := RX7) (T := TX7) (N := 12) hx hb hts (pm_cls (a := 7) (q := (RX7, TX7, 12)) rfl).1 tyX7 tyX7_ok nmX7 hown hK hP hD hS 0 rfl rfl 6 (by decide) (pm_word hts rfl kw_117) (fun _ h9 => h9) rfl (by decide +kernel) rfl rfl (Nat.le_of_ble_eq_true rfl) dk_X7_init_42 (fun H locs hP hD hS => ?_)
  have hP : va_P D classes [(h0, .inr (7, [.null, .null, .ref a1, .ref a2, .ref a3, .ref a4, .int 0, .int 0, .int 0, .int 0, .int 0, .int 0])), (a1, .inl (cI, 256, .inl (fun _ => 0))), (a2, .inl (cI, 256, .inl (fun _ => 0))), (a3, .inl (cI, 256, .inl (fun _ => 0))), (a4, .inl (cI, 256, .inl (fun _ => 0)))] H := hP
  have hD : va_D A [(h0, .inr (7, [.null, .null, .ref a1, .ref a2, .ref a3, .ref a4, .int 0, .int 0, .int 0, .int 0, .int 0, .int 0])), (a1, .inl (cI, 256, .inl (fun _ => 0))), (a2, .inl (cI, 256, .inl (fun _ => 0))), (a3, .inl (cI, 256, .inl (fun _ => 0))), (a4, .inl (cI, 256, .inl (fun _ => 0)))] := hD
  refine lv_aload_n hx hb dk_X7_init_45 rfl (lv_at hl 0 rfl) ?_
  refine lv_iconst (v := 0) hx hb dk_X7_init_46 (by decide) ?_
  refine va_put (D := D) (ci := 7) (v := .int 0) (ty := .boolean) (C := RX7) (T := TX7) (N := 12) hx hb hts (pm_cls (a := 7) (q := (RX7, TX7, 12)) rfl).1 tyX7 tyX7_ok nmX7 hown hK hP hD hS 0 rfl rfl 7 (by decide) (pm_word hts rfl kw_118) (fun _ h9 => h9) rfl (by decide +kernel) rfl rfl (Nat.le_of_ble_eq_true rfl) dk_X7_init_47 (fun H locs hP hD hS => ?_)
  have hP : va_P D classes [(h0, .inr (7, [.null, .null, .ref a1, .ref a2, .ref a3, .ref a4, .int 0, .int 0, .int 0, .int 0, .int 0, .int 0])), (a1, .inl (cI, 256, .inl (fun _ => 0))), (a2, .inl (cI, 256, .inl (fun _ => 0))), (a3, .inl (cI, 256, .inl (fun _ => 0))), (a4, .inl (cI, 256, .inl (fun _ => 0)))] H := hP
  have hD : va_D A [(h0, .inr (7, [.null, .null, .ref a1, .ref a2, .ref a3, .ref a4, .int 0, .int 0, .int 0, .int 0, .int 0, .int 0])), (a1, .inl (cI, 256, .inl (fun _ => 0))), (a2, .inl (cI, 256, .inl (fun _ => 0))), (a3, .inl (cI, 256, .inl (fun _ => 0))), (a4, .inl (cI, 256, .inl (fun _ => 0)))] := hD
  refine lv_aload_n hx hb dk_X7_init_50 rfl (lv_at hl 0 rfl) ?_
  refine lv_iconst (v := 0) hx hb dk_X7_init_51 (by decide) ?_
  refine va_put (D := D) (ci := 7) (v := .int 0) (ty := .int) (C := RX7) (T := TX7) (N := 12) hx hb hts (pm_cls (a := 7) (q := (RX7, TX7, 12)) rfl).1 tyX7 tyX7_ok nmX7 hown hK hP hD hS 0 rfl rfl 8 (by decide) (pm_word hts rfl kw_119) (fun _ h9 => h9) rfl (by decide +kernel) rfl rfl (Nat.le_of_ble_eq_true rfl) dk_X7_init_52 (fun H locs hP hD hS => ?_)
  have hP : va_P D classes [(h0, .inr (7, [.null, .null, .ref a1, .ref a2, .ref a3, .ref a4, .int 0, .int 0, .int 0, .int 0, .int 0, .int 0])), (a1, .inl (cI, 256, .inl (fun _ => 0))), (a2, .inl (cI, 256, .inl (fun _ => 0))), (a3, .inl (cI, 256, .inl (fun _ => 0))), (a4, .inl (cI, 256, .inl (fun _ => 0)))] H := hP
  have hD : va_D A [(h0, .inr (7, [.null, .null, .ref a1, .ref a2, .ref a3, .ref a4, .int 0, .int 0, .int 0, .int 0, .int 0, .int 0])), (a1, .inl (cI, 256, .inl (fun _ => 0))), (a2, .inl (cI, 256, .inl (fun _ => 0))), (a3, .inl (cI, 256, .inl (fun _ => 0))), (a4, .inl (cI, 256, .inl (fun _ => 0)))] := hD
  refine lv_aload_n hx hb dk_X7_init_55 rfl (lv_at hl 0 rfl) ?_
  refine lv_iconst (v := 0) hx hb dk_X7_init_56 (by decide) ?_
  refine va_put (D := D) (ci := 7) (v := .int 0) (ty := .int) (C := RX7) (T := TX7) (N := 12) hx hb hts (pm_cls (a := 7) (q := (RX7, TX7, 12)) rfl).1 tyX7 tyX7_ok nmX7 hown hK hP hD hS 0 rfl rfl 9 (by decide) (pm_word hts rfl kw_120) (fun _ h9 => h9) rfl (by decide +kernel) rfl rfl (Nat.le_of_ble_eq_true rfl) dk_X7_init_57 (fun H locs hP hD hS => ?_)
  have hP : va_P D classes [(h0, .inr (7, [.null, .null, .ref a1, .ref a2, .ref a3, .ref a4, .int 0, .int 0, .int 0, .int 0, .int 0, .int 0])), (a1, .inl (cI, 256, .inl (fun _ => 0))), (a2, .inl (cI, 256, .inl (fun _ => 0))), (a3, .inl (cI, 256, .inl (fun _ => 0))), (a4, .inl (cI, 256, .inl (fun _ => 0)))] H := hP
  have hD : va_D A [(h0, .inr (7, [.null, .null, .ref a1, .ref a2, .ref a3, .ref a4, .int 0, .int 0, .int 0, .int 0, .int 0, .int 0])), (a1, .inl (cI, 256, .inl (fun _ => 0))), (a2, .inl (cI, 256, .inl (fun _ => 0))), (a3, .inl (cI, 256, .inl (fun _ => 0))), (a4, .inl (cI, 256, .inl (fun _ => 0)))] := hD
  refine lv_aload_n hx hb dk_X7_init_60 rfl (lv_at hl 0 rfl) ?_
  refine lv_iconst (v := 0) hx hb dk_X7_init_61 (by decide) ?_
  refine va_put (D := D) (ci := 7) (v := .int 0) (ty := .int) (C := RX7) (T := TX7) (N := 12) hx hb hts (pm_cls (a := 7) (q := (RX7, TX7, 12)) rfl).1 tyX7 tyX7_ok nmX7 hown hK hP hD hS 0 rfl rfl 10 (by decide) (pm_word hts rfl kw_121) (fun _ h9 => h9) rfl (by decide +kernel) rfl rfl (Nat.le_of_ble_eq_true rfl) dk_X7_init_62 (fun H locs hP hD hS => ?_)
  have hP : va_P D classes [(h0, .inr (7, [.null, .null, .ref a1, .ref a2, .ref a3, .ref a4, .int 0, .int 0, .int 0, .int 0, .int 0, .int 0])), (a1, .inl (cI, 256, .inl (fun _ => 0))), (a2, .inl (cI, 256, .inl (fun _ => 0))), (a3, .inl (cI, 256, .inl (fun _ => 0))), (a4, .inl (cI, 256, .inl (fun _ => 0)))] H := hP
  have hD : va_D A [(h0, .inr (7, [.null, .null, .ref a1, .ref a2, .ref a3, .ref a4, .int 0, .int 0, .int 0, .int 0, .int 0, .int 0])), (a1, .inl (cI, 256, .inl (fun _ => 0))), (a2, .inl (cI, 256, .inl (fun _ => 0))), (a3, .inl (cI, 256, .inl (fun _ => 0))), (a4, .inl (cI, 256, .inl (fun _ => 0)))] := hD
  refine lv_aload_n hx hb dk_X7_init_65 rfl (lv_at hl 0 rfl) ?_
  refine lv_iconst (v := 0) hx hb dk_X7_init_66 (by decide) ?_
  refine va_put (D := D) (ci := 7) (v := .int 0) (ty := .int) (C := RX7) (T := TX7) (N := 12) hx hb hts (pm_cls (a := 7) (q := (RX7, TX7, 12)) rfl).1 tyX7 tyX7_ok nmX7 hown hK hP hD hS 0 rfl rfl 11 (by decide) (pm_word hts rfl kw_122) (fun _ h9 => h9) rfl (by decide +kernel) rfl rfl (Nat.le_of_ble_eq_true rfl) dk_X7_init_67 (fun H locs hP hD hS => ?_)
  have hP : va_P D classes [(h0, .inr (7, [.null, .null, .ref a1, .ref a2, .ref a3, .ref a4, .int 0, .int 0, .int 0, .int 0, .int 0, .int 0])), (a1, .inl (cI, 256, .inl (fun _ => 0))), (a2, .inl (cI, 256, .inl (fun _ => 0))), (a3, .inl (cI, 256, .inl (fun _ => 0))), (a4, .inl (cI, 256, .inl (fun _ => 0)))] H := hP
  have hD : va_D A [(h0, .inr (7, [.null, .null, .ref a1, .ref a2, .ref a3, .ref a4, .int 0, .int 0, .int 0, .int 0, .int 0, .int 0])), (a1, .inl (cI, 256, .inl (fun _ => 0))), (a2, .inl (cI, 256, .inl (fun _ => 0))), (a3, .inl (cI, 256, .inl (fun _ => 0))), (a4, .inl (cI, 256, .inl (fun _ => 0)))] := hD
  refine lv_aload_n hx hb dk_X7_init_70 rfl (lv_at hl 0 rfl) ?_
  refine lv_aload_n hx hb dk_X7_init_71 rfl (lv_at hl 1 rfl) ?_
  refine va_putF (D := D) (ci := 7) (v := .ref p1) (ty := .object "ReadFromRight$Law") (C := RX7) (T := TX7) (N := 12) hx hb hts (pm_cls (a := 7) (q := (RX7, TX7, 12)) rfl).1 tyX7 tyX7_ok nmX7 hown hK hP hD hS 0 rfl rfl 0 (by decide) (pm_word hts rfl kw_111) (fun _ h9 => h9) rfl hin rfl (by decide +kernel) rfl rfl (Nat.le_of_ble_eq_true rfl) dk_X7_init_72 (fun H locs hP hD hS => ?_)
  have hP : va_P D classes [(h0, .inr (7, [.ref p1, .null, .ref a1, .ref a2, .ref a3, .ref a4, .int 0, .int 0, .int 0, .int 0, .int 0, .int 0])), (a1, .inl (cI, 256, .inl (fun _ => 0))), (a2, .inl (cI, 256, .inl (fun _ => 0))), (a3, .inl (cI, 256, .inl (fun _ => 0))), (a4, .inl (cI, 256, .inl (fun _ => 0)))] H := hP
  have hD : va_D A [(h0, .inr (7, [.ref p1, .null, .ref a1, .ref a2, .ref a3, .ref a4, .int 0, .int 0, .int 0, .int 0, .int 0, .int 0])), (a1, .inl (cI, 256, .inl (fun _ => 0))), (a2, .inl (cI, 256, .inl (fun _ => 0))), (a3, .inl (cI, 256, .inl (fun _ => 0))), (a4, .inl (cI, 256, .inl (fun _ => 0)))] := hD
  refine lv_aload_n hx hb dk_X7_init_75 rfl (lv_at hl 0 rfl) ?_
  refine lv_aload_n hx hb dk_X7_init_76 rfl (lv_at hl 2 rfl) ?_
  refine va_putF (D := D) (ci := 7) (v := .ref p2) (ty := .object "ReadFromRight$Goods") (C := RX7) (T := TX7) (N := 12) hx hb hts (pm_cls (a := 7) (q := (RX7, TX7, 12)) rfl).1 tyX7 tyX7_ok nmX7 hown hK hP hD hS 0 rfl rfl 1 (by decide) (pm_word hts rfl kw_112) (fun _ h9 => h9) rfl hin rfl (by decide +kernel) rfl rfl (Nat.le_of_ble_eq_true rfl) dk_X7_init_77 (fun H locs hP hD hS => ?_)
  have hP : va_P D classes [(h0, .inr (7, [.ref p1, .ref p2, .ref a1, .ref a2, .ref a3, .ref a4, .int 0, .int 0, .int 0, .int 0, .int 0, .int 0])), (a1, .inl (cI, 256, .inl (fun _ => 0))), (a2, .inl (cI, 256, .inl (fun _ => 0))), (a3, .inl (cI, 256, .inl (fun _ => 0))), (a4, .inl (cI, 256, .inl (fun _ => 0)))] H := hP
  have hD : va_D A [(h0, .inr (7, [.ref p1, .ref p2, .ref a1, .ref a2, .ref a3, .ref a4, .int 0, .int 0, .int 0, .int 0, .int 0, .int 0])), (a1, .inl (cI, 256, .inl (fun _ => 0))), (a2, .inl (cI, 256, .inl (fun _ => 0))), (a3, .inl (cI, 256, .inl (fun _ => 0))), (a4, .inl (cI, 256, .inl (fun _ => 0)))] := hD
  refine W.widen (k := 4) (n := 1024) (Nat.le_of_ble_eq_true rfl) (Nat.le_of_ble_eq_true rfl) ?_
  exact W.vret hx hb hr (fun t ht hW => ⟨⟨(), rfl, trivial, a1, a2, a3, a4, by rw [ht]; exact hP, hD⟩, hS.F ht⟩) hS.2.2 dk_X7_init_80
set_option maxHeartbeats 8000000 in
set_option maxRecDepth 100000 in
theorem k_X4_init (l : Launch) (D : va_G) (cI cS : ClassId) (h0 p1 p2 sz : Nat) : Met l yX4_init (.code yX4_init cX4_init 3 none :: pm_tb) ({ frames := 1, cells := 1, slots := 8, locals := 12 }) (va_Pc [.ref h0, .ref p1, .ref p2] (kPre D cI cS [(h0, .inr (4, [.null, .null, .null]))] sz)) (va_Qv (fun _ : Unit => True) (fun _ t => ∃ a1 : Nat, va_P D classes [(h0, .inr (4, [.ref p1, .ref p2, .ref a1])), (a1, .inl (cI, 8, .inl (fun _ => 0)))] t.heap ∧ va_D (va_A [(h0, .inr (4, [.null, .null, .null]))] sz) [(h0, .inr (4, [.ref p1, .ref p2, .ref a1])), (a1, .inl (cI, 8, .inl (fun _ => 0)))]) (va_A [(h0, .inr (4, [.null, .null, .null]))] sz)) 1 8 (va_A [(h0, .inr (4, [.null, .null, .null]))] sz) := by
  refine Met.ofW (cc := cX4_init) (maxL := 3) (ret := none) (by decide) rfl ?_
  intro p e s m args below meth c s₁ B hml hv
  obtain ⟨rfl, hsz, hP, hK, hD0⟩ := hv
  have hx := B.exec
  have hb := B.bytes
  have hr := B.returns
  have hts := fun w (hw : w ∈ pm_tb) => atoms_spec (ws := .code yX4_init cX4_init 3 none :: pm_tb) B.pre w (List.mem_cons_of_mem _ hw)
  have hown : s.vm.findClass RX4 = some m.cls := findClass_of_methodNamed B.named
  have hlocks := B.notSynchronized
  have hin : meth.name = "<init>" := (name_of_methodNamed B.named B.method).1
  subst hsz
  have hD := hD0.self (sz := s.heap.size)
  generalize hAe : va_A [(h0, .inr (4, [.null, .null, .null]))] s.heap.size = A at hD ⊢
  have hA : ∀ q : Nat, s.heap.size ≤ q → A q := fun q h => by rw [← hAe]; exact Or.inr h
  have hS : va_S A s.heap s.heap [] := va_S.rf
  have hP : va_P D classes [(h0, .inr (4, [.null, .null, .null]))] s.heap := hP
  have hl := lv_entry ([.ref h0, .ref p1, .ref p2]) (n := 3) (Nat.le_of_ble_eq_true rfl)
  rw [lg_entry_eq]
  generalize (lg_sl ([.ref h0, .ref p1, .ref p2]) ++ List.replicate (3 - (lg_sl ([.ref h0, .ref p1, .ref p2])).length) Slot.unset).toArray = ls at hl ⊢
  have hl : lv_has ls 3 [(0, .ref h0), (1, .ref p1), (2, .ref p2)] := hl
  refine lv_aload_n hx hb dk_X4_init_0 rfl (lv_at hl 0 rfl) ?_
  refine W.objInit hx hb hown (pm_word hts rfl kw_153) (pm_word hts rfl kw_67) (pm_word hts rfl kw_68) rfl (by rw [hml]; exact hl.1) rfl dk_X4_init_1 (Nat.le_of_ble_eq_true rfl) (Nat.le_of_ble_eq_true rfl) ?_
  refine W.eq (g2 := F0 m 4 ls []) rfl ?_
  refine lv_aload_n hx hb dk_X4_init_4 rfl (lv_at hl 0 rfl) ?_
  refine lv_bipush (v := 8) hx hb dk_X4_init_5 (by decide) ?_
  refine va_newa (atype := .int) (ty := .int) (N' := 8) (a0 := (8, .inl (fun _ => 0))) hx hb (pm_word hts rfl kw_79) rfl hK hP hD hS hA (fun _ => rfl) (by decide) rfl (Nat.le_of_ble_eq_true rfl) (Nat.le_of_ble_eq_true rfl) (Nat.le_of_ble_eq_true rfl) dk_X4_init_7 (fun a1 cA H hK1 hP hD hS => ?_)
  obtain rfl : cI = cA := k_ci hK hK1
  have hP : va_P D classes [(h0, .inr (4, [.null, .null, .null])), (a1, .inl (cI, 8, .inl (fun _ => 0)))] H := hP
  have hD : va_D A [(h0, .inr (4, [.null, .null, .null])), (a1, .inl (cI, 8, .inl (fun _ => 0)))] := hD
  refine va_putF (D := D) (ci := 4) (v := .ref a1) (ty := .array .int) (C := RX4) (T := TX4) (N := 3) hx hb hts (pm_cls (a := 4) (q := (RX4, TX4, 3)) rfl).1 tyX4 tyX4_ok nmX4 hown hK hP hD hS 0 rfl rfl 2 (by decide) (pm_word hts rfl kw_156) (fun _ h9 => h9) rfl hin rfl (by decide +kernel) rfl rfl (Nat.le_of_ble_eq_true rfl) dk_X4_init_9 (fun H locs hP hD hS => ?_)
  have hP : va_P D classes [(h0, .inr (4, [.null, .null, .ref a1])), (a1, .inl (cI, 8, .inl (fun _ => 0)))] H := hP
  have hD : va_D A [(h0, .inr (4, [.null, .null, .ref a1])), (a1, .inl (cI, 8, .inl (fun _ => 0)))] := hD
  refine lv_aload_n hx hb dk_X4_init_12 rfl (lv_at hl 0 rfl) ?_
  refine lv_aload_n hx hb dk_X4_init_13 rfl (lv_at hl 1 rfl) ?_
  refine va_putF (D := D) (ci := 4) (v := .ref p1) (ty := .object "ReadFromRight$Law") (C := RX4) (T := TX4) (N := 3) hx hb hts (pm_cls (a := 4) (q := (RX4, TX4, 3)) rfl).1 tyX4 tyX4_ok nmX4 hown hK hP hD hS 0 rfl rfl 0 (by decide) (pm_word hts rfl kw_154) (fun _ h9 => h9) rfl hin rfl (by decide +kernel) rfl rfl (Nat.le_of_ble_eq_true rfl) dk_X4_init_14 (fun H locs hP hD hS => ?_)
  have hP : va_P D classes [(h0, .inr (4, [.ref p1, .null, .ref a1])), (a1, .inl (cI, 8, .inl (fun _ => 0)))] H := hP
  have hD : va_D A [(h0, .inr (4, [.ref p1, .null, .ref a1])), (a1, .inl (cI, 8, .inl (fun _ => 0)))] := hD
  refine lv_aload_n hx hb dk_X4_init_17 rfl (lv_at hl 0 rfl) ?_
  refine lv_aload_n hx hb dk_X4_init_18 rfl (lv_at hl 2 rfl) ?_
  refine va_putF (D := D) (ci := 4) (v := .ref p2) (ty := .object "ReadFromRight$Goods") (C := RX4) (T := TX4) (N := 3) hx hb hts (pm_cls (a := 4) (q := (RX4, TX4, 3)) rfl).1 tyX4 tyX4_ok nmX4 hown hK hP hD hS 0 rfl rfl 1 (by decide) (pm_word hts rfl kw_155) (fun _ h9 => h9) rfl hin rfl (by decide +kernel) rfl rfl (Nat.le_of_ble_eq_true rfl) dk_X4_init_19 (fun H locs hP hD hS => ?_)
  have hP : va_P D classes [(h0, .inr (4, [.ref p1, .ref p2, .ref a1])), (a1, .inl (cI, 8, .inl (fun _ => 0)))] H := hP
  have hD : va_D A [(h0, .inr (4, [.ref p1, .ref p2, .ref a1])), (a1, .inl (cI, 8, .inl (fun _ => 0)))] := hD
  refine W.widen (k := 1) (n := 8) (Nat.le_of_ble_eq_true rfl) (Nat.le_of_ble_eq_true rfl) ?_
  exact W.vret hx hb hr (fun t ht hW => ⟨⟨(), rfl, trivial, a1, by rw [ht]; exact hP, hD⟩, hS.F ht⟩) hS.2.2 dk_X4_init_22
set_option maxHeartbeats 8000000 in
set_option maxRecDepth 100000 in
theorem k_X5_init (l : Launch) (D : va_G) (cI cS : ClassId) (h0 p1 sz : Nat) : Met l yX5_init (.code yX5_init cX5_init 2 none :: pm_tb) ({ frames := 1, cells := 1, slots := 201, locals := 12 }) (va_Pc [.ref h0, .ref p1] (kPre D cI cS [(h0, .inr (5, [.null, .null, .int 0]))] sz)) (va_Qv (fun _ : Unit => True) (fun _ t => ∃ a1 : Nat, va_P D classes [(h0, .inr (5, [.ref p1, .ref a1, .int 0])), (a1, .inl (cI, 201, .inl (fun _ => 0)))] t.heap ∧ va_D (va_A [(h0, .inr (5, [.null, .null, .int 0]))] sz) [(h0, .inr (5, [.ref p1, .ref a1, .int 0])), (a1, .inl (cI, 201, .inl (fun _ => 0)))]) (va_A [(h0, .inr (5, [.null, .null, .int 0]))] sz)) 1 201 (va_A [(h0, .inr (5, [.null, .null, .int 0]))] sz) := by
  refine Met.ofW (cc := cX5_init) (maxL := 2) (ret := none) (by decide) rfl ?_
  intro p e s m args below meth c s₁ B hml hv
  obtain ⟨rfl, hsz, hP, hK, hD0⟩ := hv
  have hx := B.exec
  have hb := B.bytes
  have hr := B.returns
  have hts := fun w (hw : w ∈ pm_tb) => atoms_spec (ws := .code yX5_init cX5_init 2 none :: pm_tb) B.pre w (List.mem_cons_of_mem _ hw)
  have hown : s.vm.findClass RX5 = some m.cls := findClass_of_methodNamed B.named
  have hlocks := B.notSynchronized
  have hin : meth.name = "<init>" := (name_of_methodNamed B.named B.method).1
  subst hsz
  have hD := hD0.self (sz := s.heap.size)
  generalize hAe : va_A [(h0, .inr (5, [.null, .null, .int 0]))] s.heap.size = A at hD ⊢
  have hA : ∀ q : Nat, s.heap.size ≤ q → A q := fun q h => by rw [← hAe]; exact Or.inr h
  have hS : va_S A s.heap s.heap [] := va_S.rf
  have hP : va_P D classes [(h0, .inr (5, [.null, .null, .int 0]))] s.heap := hP
  have hl := lv_entry ([.ref h0, .ref p1]) (n := 2) (Nat.le_of_ble_eq_true rfl)
  rw [lg_entry_eq]
  generalize (lg_sl ([.ref h0, .ref p1]) ++ List.replicate (2 - (lg_sl ([.ref h0, .ref p1])).length) Slot.unset).toArray = ls at hl ⊢
  have hl : lv_has ls 2 [(0, .ref h0), (1, .ref p1)] := hl
  refine lv_aload_n hx hb dk_X5_init_0 rfl (lv_at hl 0 rfl) ?_
  refine W.objInit hx hb hown (pm_word hts rfl kw_169) (pm_word hts rfl kw_67) (pm_word hts rfl kw_68) rfl (by rw [hml]; exact hl.1) rfl dk_X5_init_1 (Nat.le_of_ble_eq_true rfl) (Nat.le_of_ble_eq_true rfl) ?_
  refine W.eq (g2 := F0 m 4 ls []) rfl ?_
  refine lv_aload_n hx hb dk_X5_init_4 rfl (lv_at hl 0 rfl) ?_
  refine lv_sipush (v := 201) hx hb dk_X5_init_5 (by decide) ?_
  refine va_newa (atype := .int) (ty := .int) (N' := 201) (a0 := (201, .inl (fun _ => 0))) hx hb (pm_word hts rfl kw_79) rfl hK hP hD hS hA (fun _ => rfl) (by decide) rfl (Nat.le_of_ble_eq_true rfl) (Nat.le_of_ble_eq_true rfl) (Nat.le_of_ble_eq_true rfl) dk_X5_init_8 (fun a1 cA H hK1 hP hD hS => ?_)
  obtain rfl : cI = cA := k_ci hK hK1
  have hP : va_P D classes [(h0, .inr (5, [.null, .null, .int 0])), (a1, .inl (cI, 201, .inl (fun _ => 0)))] H := hP
  have hD : va_D A [(h0, .inr (5, [.null, .null, .int 0])), (a1, .inl (cI, 201, .inl (fun _ => 0)))] := hD
  refine va_putF (D := D) (ci := 5) (v := .ref a1) (ty := .array .int) (C := RX5) (T := TX5) (N := 3) hx hb hts (pm_cls (a := 5) (q := (RX5, TX5, 3)) rfl).1 tyX5 tyX5_ok nmX5 hown hK hP hD hS 0 rfl rfl 1 (by decide) (pm_word hts rfl kw_171) (fun _ h9 => h9) rfl hin rfl (by decide +kernel) rfl rfl (Nat.le_of_ble_eq_true rfl) dk_X5_init_10 (fun H locs hP hD hS => ?_)
  have hP : va_P D classes [(h0, .inr (5, [.null, .ref a1, .int 0])), (a1, .inl (cI, 201, .inl (fun _ => 0)))] H := hP
  have hD : va_D A [(h0, .inr (5, [.null, .ref a1, .int 0])), (a1, .inl (cI, 201, .inl (fun _ => 0)))] := hD
  refine lv_aload_n hx hb dk_X5_init_13 rfl (lv_at hl 0 rfl) ?_
  refine lv_iconst (v := 0) hx hb dk_X5_init_14 (by decide) ?_
  refine va_put (D := D) (ci := 5) (v := .int 0) (ty := .int) (C := RX5) (T := TX5) (N := 3) hx hb hts (pm_cls (a := 5) (q := (RX5, TX5, 3)) rfl).1 tyX5 tyX5_ok nmX5 hown hK hP hD hS 0 rfl rfl 2 (by decide) (pm_word hts rfl kw_172) (fun _ h9 => h9) rfl (by decide +kernel) rfl rfl (Nat.le_of_ble_eq_true rfl) dk_X5_init_15 (fun H locs hP hD hS => ?_)
  have hP : va_P D classes [(h0, .inr (5, [.null, .ref a1, .int 0])), (a1, .inl (cI, 201, .inl (fun _ => 0)))] H := hP
  have hD : va_D A [(h0, .inr (5, [.null, .ref a1, .int 0])), (a1, .inl (cI, 201, .inl (fun _ => 0)))] := hD
  refine lv_aload_n hx hb dk_X5_init_18 rfl (lv_at hl 0 rfl) ?_
  refine lv_aload_n hx hb dk_X5_init_19 rfl (lv_at hl 1 rfl) ?_
  refine va_putF (D := D) (ci := 5) (v := .ref p1) (ty := .object "ReadFromRight$Law") (C := RX5) (T := TX5) (N := 3) hx hb hts (pm_cls (a := 5) (q := (RX5, TX5, 3)) rfl).1 tyX5 tyX5_ok nmX5 hown hK hP hD hS 0 rfl rfl 0 (by decide) (pm_word hts rfl kw_170) (fun _ h9 => h9) rfl hin rfl (by decide +kernel) rfl rfl (Nat.le_of_ble_eq_true rfl) dk_X5_init_20 (fun H locs hP hD hS => ?_)
  have hP : va_P D classes [(h0, .inr (5, [.ref p1, .ref a1, .int 0])), (a1, .inl (cI, 201, .inl (fun _ => 0)))] H := hP
  have hD : va_D A [(h0, .inr (5, [.ref p1, .ref a1, .int 0])), (a1, .inl (cI, 201, .inl (fun _ => 0)))] := hD
  refine W.widen (k := 1) (n := 201) (Nat.le_of_ble_eq_true rfl) (Nat.le_of_ble_eq_true rfl) ?_
  exact W.vret hx hb hr (fun t ht hW => ⟨⟨(), rfl, trivial, a1, by rw [ht]; exact hP, hD⟩, hS.F ht⟩) hS.2.2 dk_X5_init_23
set_option maxHeartbeats 8000000 in
set_option maxRecDepth 100000 in
theorem k_X0_init (l : Launch) (D : va_G) (cI cS : ClassId) (h0 p1 sz : Nat) : Met l yX0_init (.code yX0_init cX0_init 2 none :: pm_tb) ({ frames := 1, cells := 1, slots := 4, locals := 12 }) (va_Pc [.ref h0, .ref p1] (kPre D cI cS [(h0, .inr (0, [.null, .null, .int 0, .int 0]))] sz)) (va_Qv (fun _ : Unit => True) (fun _ t => ∃ a1 : Nat, va_P D classes [(h0, .inr (0, [.ref p1, .ref a1, .int 0, .int (-1)])), (a1, .inl (cI, 4, .inl (fun _ => 0)))] t.heap ∧ va_D (va_A [(h0, .inr (0, [.null, .null, .int 0, .int 0]))] sz) [(h0, .inr (0, [.ref p1, .ref a1, .int 0, .int (-1)])), (a1, .inl (cI, 4, .inl (fun _ => 0)))]) (va_A [(h0, .inr (0, [.null, .null, .int 0, .int 0]))] sz)) 1 4 (va_A [(h0, .inr (0, [.null, .null, .int 0, .int 0]))] sz) := by
  refine Met.ofW (cc := cX0_init) (maxL := 2) (ret := none) (by decide) rfl ?_
  intro p e s m args below meth c s₁ B hml hv
  obtain ⟨rfl, hsz, hP, hK, hD0⟩ := hv
  have hx := B.exec
  have hb := B.bytes
  have hr := B.returns
  have hts := fun w (hw : w ∈ pm_tb) => atoms_spec (ws := .code yX0_init cX0_init 2 none :: pm_tb) B.pre w (List.mem_cons_of_mem _ hw)
  have hown : s.vm.findClass RX0 = some m.cls := findClass_of_methodNamed B.named
  have hlocks := B.notSynchronized
  have hin : meth.name = "<init>" := (name_of_methodNamed B.named B.method).1
  subst hsz
  have hD := hD0.self (sz := s.heap.size)
  generalize hAe : va_A [(h0, .inr (0, [.null, .null, .int 0, .int 0]))] s.heap.size = A at hD ⊢
  have hA : ∀ q : Nat, s.heap.size ≤ q → A q := fun q h => by rw [← hAe]; exact Or.inr h
  have hS : va_S A s.heap s.heap [] := va_S.rf
  have hP : va_P D classes [(h0, .inr (0, [.null, .null, .int 0, .int 0]))] s.heap := hP
  have hl := lv_entry ([.ref h0, .ref p1]) (n := 2) (Nat.le_of_ble_eq_true rfl)
  rw [lg_entry_eq]
  generalize (lg_sl ([.ref h0, .ref p1]) ++ List.replicate (2 - (lg_sl ([.ref h0, .ref p1])).length) Slot.unset).toArray = ls at hl ⊢
  have hl : lv_has ls 2 [(0, .ref h0), (1, .ref p1)] := hl
  refine lv_aload_n hx hb dk_X0_init_0 rfl (lv_at hl 0 rfl) ?_
  refine W.objInit hx hb hown (pm_word hts rfl kw_185) (pm_word hts rfl kw_67) (pm_word hts rfl kw_68) rfl (by rw [hml]; exact hl.1) rfl dk_X0_init_1 (Nat.le_of_ble_eq_true rfl) (Nat.le_of_ble_eq_true rfl) ?_
  refine W.eq (g2 := F0 m 4 ls []) rfl ?_
  refine lv_aload_n hx hb dk_X0_init_4 rfl (lv_at hl 0 rfl) ?_
  refine lv_iconst (v := 4) hx hb dk_X0_init_5 (by decide) ?_
  refine va_newa (atype := .int) (ty := .int) (N' := 4) (a0 := (4, .inl (fun _ => 0))) hx hb (pm_word hts rfl kw_79) rfl hK hP hD hS hA (fun _ => rfl) (by decide) rfl (Nat.le_of_ble_eq_true rfl) (Nat.le_of_ble_eq_true rfl) (Nat.le_of_ble_eq_true rfl) dk_X0_init_6 (fun a1 cA H hK1 hP hD hS => ?_)
  obtain rfl : cI = cA := k_ci hK hK1
  have hP : va_P D classes [(h0, .inr (0, [.null, .null, .int 0, .int 0])), (a1, .inl (cI, 4, .inl (fun _ => 0)))] H := hP
  have hD : va_D A [(h0, .inr (0, [.null, .null, .int 0, .int 0])), (a1, .inl (cI, 4, .inl (fun _ => 0)))] := hD
  refine va_putF (D := D) (ci := 0) (v := .ref a1) (ty := .array .int) (C := RX0) (T := TX0) (N := 4) hx hb hts (pm_cls (a := 0) (q := (RX0, TX0, 4)) rfl).1 tyX0 tyX0_ok nmX0 hown hK hP hD hS 0 rfl rfl 1 (by decide) (pm_word hts rfl kw_187) (fun _ h9 => h9) rfl hin rfl (by decide +kernel) rfl rfl (Nat.le_of_ble_eq_true rfl) dk_X0_init_8 (fun H locs hP hD hS => ?_)
  have hP : va_P D classes [(h0, .inr (0, [.null, .ref a1, .int 0, .int 0])), (a1, .inl (cI, 4, .inl (fun _ => 0)))] H := hP
  have hD : va_D A [(h0, .inr (0, [.null, .ref a1, .int 0, .int 0])), (a1, .inl (cI, 4, .inl (fun _ => 0)))] := hD
  refine lv_aload_n hx hb dk_X0_init_11 rfl (lv_at hl 0 rfl) ?_
  refine lv_iconst (v := 0) hx hb dk_X0_init_12 (by decide) ?_
  refine va_put (D := D) (ci := 0) (v := .int 0) (ty := .int) (C := RX0) (T := TX0) (N := 4) hx hb hts (pm_cls (a := 0) (q := (RX0, TX0, 4)) rfl).1 tyX0 tyX0_ok nmX0 hown hK hP hD hS 0 rfl rfl 2 (by decide) (pm_word hts rfl kw_188) (fun _ h9 => h9) rfl (by decide +kernel) rfl rfl (Nat.le_of_ble_eq_true rfl) dk_X0_init_13 (fun H locs hP hD hS => ?_)
  have hP : va_P D classes [(h0, .inr (0, [.null, .ref a1, .int 0, .int 0])), (a1, .inl (cI, 4, .inl (fun _ => 0)))] H := hP
  have hD : va_D A [(h0, .inr (0, [.null, .ref a1, .int 0, .int 0])), (a1, .inl (cI, 4, .inl (fun _ => 0)))] := hD
  refine lv_aload_n hx hb dk_X0_init_16 rfl (lv_at hl 0 rfl) ?_
  refine lv_iconst (v := (-1)) hx hb dk_X0_init_17 (by decide) ?_
  refine va_put (D := D) (ci := 0) (v := .int (-1)) (ty := .int) (C := RX0) (T := TX0) (N := 4) hx hb hts (pm_cls (a := 0) (q := (RX0, TX0, 4)) rfl).1 tyX0 tyX0_ok nmX0 hown hK hP hD hS 0 rfl rfl 3 (by decide) (pm_word hts rfl kw_189) (fun _ h9 => h9) rfl (by decide +kernel) rfl rfl (Nat.le_of_ble_eq_true rfl) dk_X0_init_18 (fun H locs hP hD hS => ?_)
  have hP : va_P D classes [(h0, .inr (0, [.null, .ref a1, .int 0, .int (-1)])), (a1, .inl (cI, 4, .inl (fun _ => 0)))] H := hP
  have hD : va_D A [(h0, .inr (0, [.null, .ref a1, .int 0, .int (-1)])), (a1, .inl (cI, 4, .inl (fun _ => 0)))] := hD
  refine lv_aload_n hx hb dk_X0_init_21 rfl (lv_at hl 0 rfl) ?_
  refine lv_aload_n hx hb dk_X0_init_22 rfl (lv_at hl 1 rfl) ?_
  refine va_putF (D := D) (ci := 0) (v := .ref p1) (ty := .object "ReadFromRight$Law") (C := RX0) (T := TX0) (N := 4) hx hb hts (pm_cls (a := 0) (q := (RX0, TX0, 4)) rfl).1 tyX0 tyX0_ok nmX0 hown hK hP hD hS 0 rfl rfl 0 (by decide) (pm_word hts rfl kw_186) (fun _ h9 => h9) rfl hin rfl (by decide +kernel) rfl rfl (Nat.le_of_ble_eq_true rfl) dk_X0_init_23 (fun H locs hP hD hS => ?_)
  have hP : va_P D classes [(h0, .inr (0, [.ref p1, .ref a1, .int 0, .int (-1)])), (a1, .inl (cI, 4, .inl (fun _ => 0)))] H := hP
  have hD : va_D A [(h0, .inr (0, [.ref p1, .ref a1, .int 0, .int (-1)])), (a1, .inl (cI, 4, .inl (fun _ => 0)))] := hD
  refine W.widen (k := 1) (n := 4) (Nat.le_of_ble_eq_true rfl) (Nat.le_of_ble_eq_true rfl) ?_
  exact W.vret hx hb hr (fun t ht hW => ⟨⟨(), rfl, trivial, a1, by rw [ht]; exact hP, hD⟩, hS.F ht⟩) hS.2.2 dk_X0_init_26
set_option maxHeartbeats 8000000 in
set_option maxRecDepth 100000 in
theorem k_X3_init (l : Launch) (D : va_G) (cI cS : ClassId) (h0 p1 sz : Nat) : Met l yX3_init (.code yX3_init cX3_init 2 none :: pm_tb) ({ frames := 1, cells := 2, slots := 242, locals := 12 }) (va_Pc [.ref h0, .ref p1] (kPre D cI cS [(h0, .inr (3, [.null, .null, .null]))] sz)) (va_Qv (fun _ : Unit => True) (fun _ t => ∃ a1 a2 : Nat, va_P D classes [(h0, .inr (3, [.ref p1, .ref a1, .ref a2])), (a1, .inl (cI, 121, .inl (fun _ => 0))), (a2, .inl (cI, 121, .inl (fun _ => 0)))] t.heap ∧ va_D (va_A [(h0, .inr (3, [.null, .null, .null]))] sz) [(h0, .inr (3, [.ref p1, .ref a1, .ref a2])), (a1, .inl (cI, 121, .inl (fun _ => 0))), (a2, .inl (cI, 121, .inl (fun _ => 0)))]) (va_A [(h0, .inr (3, [.null, .null, .null]))] sz)) 2 242 (va_A [(h0, .inr (3, [.null, .null, .null]))] sz) := by
  refine Met.ofW (cc := cX3_init) (maxL := 2) (ret := none) (by decide) rfl ?_
  intro p e s m args below meth c s₁ B hml hv
  obtain ⟨rfl, hsz, hP, hK, hD0⟩ := hv
  have hx := B.exec
  have hb := B.bytes
  have hr := B.returns
  have hts := fun w (hw : w ∈ pm_tb) => atoms_spec (ws := .code yX3_init cX3_init 2 none :: pm_tb) B.pre w (List.mem_cons_of_mem _ hw)
  have hown : s.vm.findClass RX3 = some m.cls := findClass_of_methodNamed B.named
  have hlocks := B.notSynchronized
  have hin : meth.name = "<init>" := (name_of_methodNamed B.named B.method).1
  subst hsz
  have hD := hD0.self (sz := s.heap.size)
  generalize hAe : va_A [(h0, .inr (3, [.null, .null, .null]))] s.heap.size = A at hD ⊢
  have hA : ∀ q : Nat, s.heap.size ≤ q → A q := fun q h => by rw [← hAe]; exact Or.inr h
  have hS : va_S A s.heap s.heap [] := va_S.rf
  have hP : va_P D classes [(h0, .inr (3, [.null, .null, .null]))] s.heap := hP
  have hl := lv_entry ([.ref h0, .ref p1]) (n := 2) (Nat.le_of_ble_eq_true rfl)
  rw [lg_entry_eq]
  generalize (lg_sl ([.ref h0, .ref p1]) ++ List.replicate (2 - (lg_sl ([.ref h0, .ref p1])).length) Slot.unset).toArray = ls at hl ⊢
  have hl : lv_has ls 2 [(0, .ref h0), (1, .ref p1)] := hl
  refine lv_aload_n hx hb dk_X3_init_0 rfl (lv_at hl 0 rfl) ?_
  refine W.objInit hx hb hown (pm_word hts rfl kw_204) (pm_word hts rfl kw_67) (pm_word hts rfl kw_68) rfl (by rw [hml]; exact hl.1) rfl dk_X3_init_1 (Nat.le_of_ble_eq_true rfl) (Nat.le_of_ble_eq_true rfl) ?_
  refine W.eq (g2 := F0 m 4 ls []) rfl ?_
  refine lv_aload_n hx hb dk_X3_init_4 rfl (lv_at hl 0 rfl) ?_
  refine lv_bipush (v := 121) hx hb dk_X3_init_5 (by decide) ?_
  refine va_newa (atype := .int) (ty := .int) (N' := 121) (a0 := (121, .inl (fun _ => 0))) hx hb (pm_word hts rfl kw_79) rfl hK hP hD hS hA (fun _ => rfl) (by decide) rfl (Nat.le_of_ble_eq_true rfl) (Nat.le_of_ble_eq_true rfl) (Nat.le_of_ble_eq_true rfl) dk_X3_init_7 (fun a1 cA H hK1 hP hD hS => ?_)
  obtain rfl : cI = cA := k_ci hK hK1
  have hP : va_P D classes [(h0, .inr (3, [.null, .null, .null])), (a1, .inl (cI, 121, .inl (fun _ => 0)))] H := hP
  have hD : va_D A [(h0, .inr (3, [.null, .null, .null])), (a1, .inl (cI, 121, .inl (fun _ => 0)))] := hD
  refine va_putF (D := D) (ci := 3) (v := .ref a1) (ty := .array .int) (C := RX3) (T := TX3) (N := 3) hx hb hts (pm_cls (a := 3) (q := (RX3, TX3, 3)) rfl).1 tyX3 tyX3_ok nmX3 hown hK hP hD hS 0 rfl rfl 1 (by decide) (pm_word hts rfl kw_206) (fun _ h9 => h9) rfl hin rfl (by decide +kernel) rfl rfl (Nat.le_of_ble_eq_true rfl) dk_X3_init_9 (fun H locs hP hD hS => ?_)
  have hP : va_P D classes [(h0, .inr (3, [.null, .ref a1, .null])), (a1, .inl (cI, 121, .inl (fun _ => 0)))] H := hP
  have hD : va_D A [(h0, .inr (3, [.null, .ref a1, .null])), (a1, .inl (cI, 121, .inl (fun _ => 0)))] := hD
  refine lv_aload_n hx hb dk_X3_init_12 rfl (lv_at hl 0 rfl) ?_
  refine lv_bipush (v := 121) hx hb dk_X3_init_13 (by decide) ?_
  refine va_newa (atype := .int) (ty := .int) (N' := 121) (a0 := (121, .inl (fun _ => 0))) hx hb (pm_word hts rfl kw_79) rfl hK hP hD hS hA (fun _ => rfl) (by decide) rfl (Nat.le_of_ble_eq_true rfl) (Nat.le_of_ble_eq_true rfl) (Nat.le_of_ble_eq_true rfl) dk_X3_init_15 (fun a2 cA H hK1 hP hD hS => ?_)
  obtain rfl : cI = cA := k_ci hK hK1
  have hP : va_P D classes [(h0, .inr (3, [.null, .ref a1, .null])), (a1, .inl (cI, 121, .inl (fun _ => 0))), (a2, .inl (cI, 121, .inl (fun _ => 0)))] H := hP
  have hD : va_D A [(h0, .inr (3, [.null, .ref a1, .null])), (a1, .inl (cI, 121, .inl (fun _ => 0))), (a2, .inl (cI, 121, .inl (fun _ => 0)))] := hD
  refine va_putF (D := D) (ci := 3) (v := .ref a2) (ty := .array .int) (C := RX3) (T := TX3) (N := 3) hx hb hts (pm_cls (a := 3) (q := (RX3, TX3, 3)) rfl).1 tyX3 tyX3_ok nmX3 hown hK hP hD hS 0 rfl rfl 2 (by decide) (pm_word hts rfl kw_207) (fun _ h9 => h9) rfl hin rfl (by decide +kernel) rfl rfl (Nat.le_of_ble_eq_true rfl) dk_X3_init_17 (fun H locs hP hD hS => ?_)
  have hP : va_P D classes [(h0, .inr (3, [.null, .ref a1, .ref a2])), (a1, .inl (cI, 121, .inl (fun _ => 0))), (a2, .inl (cI, 121, .inl (fun _ => 0)))] H := hP
  have hD : va_D A [(h0, .inr (3, [.null, .ref a1, .ref a2])), (a1, .inl (cI, 121, .inl (fun _ => 0))), (a2, .inl (cI, 121, .inl (fun _ => 0)))] := hD
  refine lv_aload_n hx hb dk_X3_init_20 rfl (lv_at hl 0 rfl) ?_
  refine lv_aload_n hx hb dk_X3_init_21 rfl (lv_at hl 1 rfl) ?_
  refine va_putF (D := D) (ci := 3) (v := .ref p1) (ty := .object "ReadFromRight$Law") (C := RX3) (T := TX3) (N := 3) hx hb hts (pm_cls (a := 3) (q := (RX3, TX3, 3)) rfl).1 tyX3 tyX3_ok nmX3 hown hK hP hD hS 0 rfl rfl 0 (by decide) (pm_word hts rfl kw_205) (fun _ h9 => h9) rfl hin rfl (by decide +kernel) rfl rfl (Nat.le_of_ble_eq_true rfl) dk_X3_init_22 (fun H locs hP hD hS => ?_)
  have hP : va_P D classes [(h0, .inr (3, [.ref p1, .ref a1, .ref a2])), (a1, .inl (cI, 121, .inl (fun _ => 0))), (a2, .inl (cI, 121, .inl (fun _ => 0)))] H := hP
  have hD : va_D A [(h0, .inr (3, [.ref p1, .ref a1, .ref a2])), (a1, .inl (cI, 121, .inl (fun _ => 0))), (a2, .inl (cI, 121, .inl (fun _ => 0)))] := hD
  refine W.widen (k := 2) (n := 242) (Nat.le_of_ble_eq_true rfl) (Nat.le_of_ble_eq_true rfl) ?_
  exact W.vret hx hb hr (fun t ht hW => ⟨⟨(), rfl, trivial, a1, a2, by rw [ht]; exact hP, hD⟩, hS.F ht⟩) hS.2.2 dk_X3_init_25
set_option maxHeartbeats 8000000 in
set_option maxRecDepth 100000 in
theorem k_X8_init (l : Launch) (D : va_G) (cI cS : ClassId) (h0 p1 sz : Nat) : Met l yX8_init (.code yX8_init cX8_init 2 none :: pm_tb) ({ frames := 1, cells := 2, slots := 418, locals := 12 }) (va_Pc [.ref h0, .ref p1] (kPre D cI cS [(h0, .inr (8, [.null, .null, .null]))] sz)) (va_Qv (fun _ : Unit => True) (fun _ t => ∃ a1 a2 : Nat, va_P D classes [(h0, .inr (8, [.ref p1, .ref a1, .ref a2])), (a1, .inl (cI, 209, .inl (fun _ => 0))), (a2, .inl (cI, 209, .inl (fun _ => 0)))] t.heap ∧ va_D (va_A [(h0, .inr (8, [.null, .null, .null]))] sz) [(h0, .inr (8, [.ref p1, .ref a1, .ref a2])), (a1, .inl (cI, 209, .inl (fun _ => 0))), (a2, .inl (cI, 209, .inl (fun _ => 0)))]) (va_A [(h0, .inr (8, [.null, .null, .null]))] sz)) 2 418 (va_A [(h0, .inr (8, [.null, .null, .null]))] sz) := by
  refine Met.ofW (cc := cX8_init) (maxL := 2) (ret := none) (by decide) rfl ?_
  intro p e s m args below meth c s₁ B hml hv
  obtain ⟨rfl, hsz, hP, hK, hD0⟩ := hv
  have hx := B.exec
  have hb := B.bytes
  have hr := B.returns
  have hts := fun w (hw : w ∈ pm_tb) => atoms_spec (ws := .code yX8_init cX8_init 2 none :: pm_tb) B.pre w (List.mem_cons_of_mem _ hw)
  have hown : s.vm.findClass RX8 = some m.cls := findClass_of_methodNamed B.named
  have hlocks := B.notSynchronized
  have hin : meth.name = "<init>" := (name_of_methodNamed B.named B.method).1
  subst hsz
  have hD := hD0.self (sz := s.heap.size)
  generalize hAe : va_A [(h0, .inr (8, [.null, .null, .null]))] s.heap.size = A at hD ⊢
  have hA : ∀ q : Nat, s.heap.size ≤ q → A q := fun q h => by rw [← hAe]; exact Or.inr h
  have hS : va_S A s.heap s.heap [] := va_S.rf
  have hP : va_P D classes [(h0, .inr (8, [.null, .null, .null]))] s.heap := hP
  have hl := lv_entry ([.ref h0, .ref p1]) (n := 2) (Nat.le_of_ble_eq_true rfl)
  rw [lg_entry_eq]
  generalize (lg_sl ([.ref h0, .ref p1]) ++ List.replicate (2 - (lg_sl ([.ref h0, .ref p1])).length) Slot.unset).toArray = ls at hl ⊢
  have hl : lv_has ls 2 [(0, .ref h0), (1, .ref p1)] := hl
  refine lv_aload_n hx hb dk_X8_init_0 rfl (lv_at hl 0 rfl) ?_
  refine W.objInit hx hb hown (pm_word hts rfl kw_220) (pm_word hts rfl kw_67) (pm_word hts rfl kw_68) rfl (by rw [hml]; exact hl.1) rfl dk_X8_init_1 (Nat.le_of_ble_eq_true rfl) (Nat.le_of_ble_eq_true rfl) ?_
  refine W.eq (g2 := F0 m 4 ls []) rfl ?_
  refine lv_aload_n hx hb dk_X8_init_4 rfl (lv_at hl 0 rfl) ?_
  refine lv_sipush (v := 209) hx hb dk_X8_init_5 (by decide) ?_
  refine va_newa (atype := .int) (ty := .int) (N' := 209) (a0 := (209, .inl (fun _ => 0))) hx hb (pm_word hts rfl kw_79) rfl hK hP hD hS hA (fun _ => rfl) (by decide) rfl (Nat.le_of_ble_eq_true rfl) (Nat.le_of_ble_eq_true rfl) (Nat.le_of_ble_eq_true rfl) dk_X8_init_8 (fun a1 cA H hK1 hP hD hS => ?_)
  obtain rfl : cI = cA := k_ci hK hK1
  have hP : va_P D classes [(h0, .inr (8, [.null, .null, .null])), (a1, .inl (cI, 209, .inl (fun _ => 0)))] H := hP
  have hD : va_D A [(h0, .inr (8, [.null, .null, .null])), (a1, .inl (cI, 209, .inl (fun _ => 0)))] := hD
  refine va_putF (D := D) (ci := 8) (v := .ref a1) (ty := .array .int) (C := RX8) (T := TX8) (N := 3) hx hb hts (pm_cls (a := 8) (q := (RX8, TX8, 3)) rfl).1 tyX8 tyX8_ok nmX8 hown hK hP hD hS 0 rfl rfl 1 (by decide) (pm_word hts rfl kw_222) (fun _ h9 => h9) rfl hin rfl (by decide +kernel) rfl rfl (Nat.le_of_ble_eq_true rfl) dk_X8_init_10 (fun H locs hP hD hS => ?_)
  have hP : va_P D classes [(h0, .inr (8, [.null, .ref a1, .null])), (a1, .inl (cI, 209, .inl (fun _ => 0)))] H := hP
  have hD : va_D A [(h0, .inr (8, [.null, .ref a1, .null])), (a1, .inl (cI, 209, .inl (fun _ => 0)))] := hD
  refine lv_aload_n hx hb dk_X8_init_13 rfl (lv_at hl 0 rfl) ?_
  refine lv_sipush (v := 209) hx hb dk_X8_init_14 (by decide) ?_
  refine va_newa (atype := .int) (ty := .int) (N' := 209) (a0 := (209, .inl (fun _ => 0))) hx hb (pm_word hts rfl kw_79) rfl hK hP hD hS hA (fun _ => rfl) (by decide) rfl (Nat.le_of_ble_eq_true rfl) (Nat.le_of_ble_eq_true rfl) (Nat.le_of_ble_eq_true rfl) dk_X8_init_17 (fun a2 cA H hK1 hP hD hS => ?_)
  obtain rfl : cI = cA := k_ci hK hK1
  have hP : va_P D classes [(h0, .inr (8, [.null, .ref a1, .null])), (a1, .inl (cI, 209, .inl (fun _ => 0))), (a2, .inl (cI, 209, .inl (fun _ => 0)))] H := hP
  have hD : va_D A [(h0, .inr (8, [.null, .ref a1, .null])), (a1, .inl (cI, 209, .inl (fun _ => 0))), (a2, .inl (cI, 209, .inl (fun _ => 0)))] := hD
  refine va_putF (D := D) (ci := 8) (v := .ref a2) (ty := .array .int) (C := RX8) (T := TX8) (N := 3) hx hb hts (pm_cls (a := 8) (q := (RX8, TX8, 3)) rfl).1 tyX8 tyX8_ok nmX8 hown hK hP hD hS 0 rfl rfl 2 (by decide) (pm_word hts rfl kw_223) (fun _ h9 => h9) rfl hin rfl (by decide +kernel) rfl rfl (Nat.le_of_ble_eq_true rfl) dk_X8_init_19 (fun H locs hP hD hS => ?_)
  have hP : va_P D classes [(h0, .inr (8, [.null, .ref a1, .ref a2])), (a1, .inl (cI, 209, .inl (fun _ => 0))), (a2, .inl (cI, 209, .inl (fun _ => 0)))] H := hP
  have hD : va_D A [(h0, .inr (8, [.null, .ref a1, .ref a2])), (a1, .inl (cI, 209, .inl (fun _ => 0))), (a2, .inl (cI, 209, .inl (fun _ => 0)))] := hD
  refine lv_aload_n hx hb dk_X8_init_22 rfl (lv_at hl 0 rfl) ?_
  refine lv_aload_n hx hb dk_X8_init_23 rfl (lv_at hl 1 rfl) ?_
  refine va_putF (D := D) (ci := 8) (v := .ref p1) (ty := .object "ReadFromRight$Law") (C := RX8) (T := TX8) (N := 3) hx hb hts (pm_cls (a := 8) (q := (RX8, TX8, 3)) rfl).1 tyX8 tyX8_ok nmX8 hown hK hP hD hS 0 rfl rfl 0 (by decide) (pm_word hts rfl kw_221) (fun _ h9 => h9) rfl hin rfl (by decide +kernel) rfl rfl (Nat.le_of_ble_eq_true rfl) dk_X8_init_24 (fun H locs hP hD hS => ?_)
  have hP : va_P D classes [(h0, .inr (8, [.ref p1, .ref a1, .ref a2])), (a1, .inl (cI, 209, .inl (fun _ => 0))), (a2, .inl (cI, 209, .inl (fun _ => 0)))] H := hP
  have hD : va_D A [(h0, .inr (8, [.ref p1, .ref a1, .ref a2])), (a1, .inl (cI, 209, .inl (fun _ => 0))), (a2, .inl (cI, 209, .inl (fun _ => 0)))] := hD
  refine W.widen (k := 2) (n := 418) (Nat.le_of_ble_eq_true rfl) (Nat.le_of_ble_eq_true rfl) ?_
  exact W.vret hx hb hr (fun t ht hW => ⟨⟨(), rfl, trivial, a1, a2, by rw [ht]; exact hP, hD⟩, hS.F ht⟩) hS.2.2 dk_X8_init_27
set_option maxHeartbeats 8000000 in
set_option maxRecDepth 100000 in
theorem k_X6_init (l : Launch) (D : va_G) (cI cS : ClassId) (h0  sz : Nat) : Met l yX6_init (.code yX6_init cX6_init 1 none :: pm_tb) ({ frames := 1, cells := 1, slots := 60, locals := 12 }) (va_Pc [.ref h0] (kPre D cI cS [(h0, .inr (6, [.null, .int 0, .int 0]))] sz)) (va_Qv (fun _ : Unit => True) (fun _ t => ∃ a1 : Nat, va_P D classes [(h0, .inr (6, [.ref a1, .int (-1), .int 0])), (a1, .inl (cI, 60, .inl (fun _ => 0)))] t.heap ∧ va_D (va_A [(h0, .inr (6, [.null, .int 0, .int 0]))] sz) [(h0, .inr (6, [.ref a1, .int (-1), .int 0])), (a1, .inl (cI, 60, .inl (fun _ => 0)))]) (va_A [(h0, .inr (6, [.null, .int 0, .int 0]))] sz)) 1 60 (va_A [(h0, .inr (6, [.null, .int 0, .int 0]))] sz) := by
  refine Met.ofW (cc := cX6_init) (maxL := 1) (ret := none) (by decide) rfl ?_
  intro p e s m args below meth c s₁ B hml hv
  obtain ⟨rfl, hsz, hP, hK, hD0⟩ := hv
  have hx := B.exec
  have hb := B.bytes
  have hr := B.returns
  have hts := fun w (hw : w ∈ pm_tb) => atoms_spec (ws := .code yX6_init cX6_init 1 none :: pm_tb) B.pre w (List.mem_cons_of_mem _ hw)
  have hown : s.vm.findClass RX6 = some m.cls := findClass_of_methodNamed B.named
  have hlocks := B.notSynchronized
  have hin : meth.name = "<init>" := (name_of_methodNamed B.named B.method).1
  subst hsz
  have hD := hD0.self (sz := s.heap.size)
  generalize hAe : va_A [(h0, .inr (6, [.null, .int 0, .int 0]))] s.heap.size = A at hD ⊢
  have hA : ∀ q : Nat, s.heap.size ≤ q → A q := fun q h => by rw [← hAe]; exact Or.inr h
  have hS : va_S A s.heap s.heap [] := va_S.rf
  have hP : va_P D classes [(h0, .inr (6, [.null, .int 0, .int 0]))] s.heap := hP
  have hl := lv_entry ([.ref h0]) (n := 1) (Nat.le_of_ble_eq_true rfl)
  rw [lg_entry_eq]
  generalize (lg_sl ([.ref h0]) ++ List.replicate (1 - (lg_sl ([.ref h0])).length) Slot.unset).toArray = ls at hl ⊢
  have hl : lv_has ls 1 [(0, .ref h0)] := hl
  refine lv_aload_n hx hb dk_X6_init_0 rfl (lv_at hl 0 rfl) ?_
  refine W.objInit hx hb hown (pm_word hts rfl kw_237) (pm_word hts rfl kw_67) (pm_word hts rfl kw_68) rfl (by rw [hml]; exact hl.1) rfl dk_X6_init_1 (Nat.le_of_ble_eq_true rfl) (Nat.le_of_ble_eq_true rfl) ?_
  refine W.eq (g2 := F0 m 4 ls []) rfl ?_
  refine lv_aload_n hx hb dk_X6_init_4 rfl (lv_at hl 0 rfl) ?_
  refine lv_bipush (v := 60) hx hb dk_X6_init_5 (by decide) ?_
  refine va_newa (atype := .int) (ty := .int) (N' := 60) (a0 := (60, .inl (fun _ => 0))) hx hb (pm_word hts rfl kw_79) rfl hK hP hD hS hA (fun _ => rfl) (by decide) rfl (Nat.le_of_ble_eq_true rfl) (Nat.le_of_ble_eq_true rfl) (Nat.le_of_ble_eq_true rfl) dk_X6_init_7 (fun a1 cA H hK1 hP hD hS => ?_)
  obtain rfl : cI = cA := k_ci hK hK1
  have hP : va_P D classes [(h0, .inr (6, [.null, .int 0, .int 0])), (a1, .inl (cI, 60, .inl (fun _ => 0)))] H := hP
  have hD : va_D A [(h0, .inr (6, [.null, .int 0, .int 0])), (a1, .inl (cI, 60, .inl (fun _ => 0)))] := hD
  refine va_putF (D := D) (ci := 6) (v := .ref a1) (ty := .array .int) (C := RX6) (T := TX6) (N := 3) hx hb hts (pm_cls (a := 6) (q := (RX6, TX6, 3)) rfl).1 tyX6 tyX6_ok nmX6 hown hK hP hD hS 0 rfl rfl 0 (by decide) (pm_word hts rfl kw_238) (fun _ h9 => h9) rfl hin rfl (by decide +kernel) rfl rfl (Nat.le_of_ble_eq_true rfl) dk_X6_init_9 (fun H locs hP hD hS => ?_)
  have hP : va_P D classes [(h0, .inr (6, [.ref a1, .int 0, .int 0])), (a1, .inl (cI, 60, .inl (fun _ => 0)))] H := hP
  have hD : va_D A [(h0, .inr (6, [.ref a1, .int 0, .int 0])), (a1, .inl (cI, 60, .inl (fun _ => 0)))] := hD
  refine lv_aload_n hx hb dk_X6_init_12 rfl (lv_at hl 0 rfl) ?_
  refine lv_iconst (v := (-1)) hx hb dk_X6_init_13 (by decide) ?_
  refine va_put (D := D) (ci := 6) (v := .int (-1)) (ty := .int) (C := RX6) (T := TX6) (N := 3) hx hb hts (pm_cls (a := 6) (q := (RX6, TX6, 3)) rfl).1 tyX6 tyX6_ok nmX6 hown hK hP hD hS 0 rfl rfl 1 (by decide) (pm_word hts rfl kw_239) (fun _ h9 => h9) rfl (by decide +kernel) rfl rfl (Nat.le_of_ble_eq_true rfl) dk_X6_init_14 (fun H locs hP hD hS => ?_)
  have hP : va_P D classes [(h0, .inr (6, [.ref a1, .int (-1), .int 0])), (a1, .inl (cI, 60, .inl (fun _ => 0)))] H := hP
  have hD : va_D A [(h0, .inr (6, [.ref a1, .int (-1), .int 0])), (a1, .inl (cI, 60, .inl (fun _ => 0)))] := hD
  refine lv_aload_n hx hb dk_X6_init_17 rfl (lv_at hl 0 rfl) ?_
  refine lv_iconst (v := 0) hx hb dk_X6_init_18 (by decide) ?_
  refine va_put (D := D) (ci := 6) (v := .int 0) (ty := .int) (C := RX6) (T := TX6) (N := 3) hx hb hts (pm_cls (a := 6) (q := (RX6, TX6, 3)) rfl).1 tyX6 tyX6_ok nmX6 hown hK hP hD hS 0 rfl rfl 2 (by decide) (pm_word hts rfl kw_240) (fun _ h9 => h9) rfl (by decide +kernel) rfl rfl (Nat.le_of_ble_eq_true rfl) dk_X6_init_19 (fun H locs hP hD hS => ?_)
  have hP : va_P D classes [(h0, .inr (6, [.ref a1, .int (-1), .int 0])), (a1, .inl (cI, 60, .inl (fun _ => 0)))] H := hP
  have hD : va_D A [(h0, .inr (6, [.ref a1, .int (-1), .int 0])), (a1, .inl (cI, 60, .inl (fun _ => 0)))] := hD
  refine W.widen (k := 1) (n := 60) (Nat.le_of_ble_eq_true rfl) (Nat.le_of_ble_eq_true rfl) ?_
  exact W.vret hx hb hr (fun t ht hW => ⟨⟨(), rfl, trivial, a1, by rw [ht]; exact hP, hD⟩, hS.F ht⟩) hS.2.2 dk_X6_init_22
