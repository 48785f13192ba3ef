/-! THE CLAIM OUT OF ONE WALK OF THE LAW'S BODY. Your part is whole_start (and what it stands on); all else here is the same for every law, but numbers. -/
def R_law : String := "ReadFromRightLaw"
def lw_P (b : Addr) (xs : List Int32) (args : Array Value) (s : State) : Prop := args = #[.ref b] ∧ s.IntsAt b xs ∧ xs.length ≤ 3072 ∧ (Jvm.Cond.and given_1 narrow_1).before args s = true
def lw_Q (_ : Array Value) (s : State) (o : Outcome) (t : State) : Prop := o = .returned (some (.int 1)) ∧ Framed s o t [] 49 6369
def lw_Z (below : List Frame) (a : Array Value) (s : State) : State → Prop := fun t => ∃ o, t.status = .running ∧ Ended t below o ∧ lw_Q a s o t
/-- the law's own end, with 1 on the stack, nothing written that was there before, its room as the claim has it -/
theorem lw_ret {p : Program} {l : Launch} {e : Env} {s : State} {m : MethodId} {below : List Frame} {meth : Method} {c : Code} {b : Nat} (hx : p.tables.exec = Jvm.exec) (hb : c.code = code) (hr : meth.sig.returnType = ret) (hlocks : meth.locks = false) {pc : Nat} {H : Heap} {ls : Array Slot} (hdg : decode code pc = .ok (.ireturn, 1)) : W p l e room_1 s m #[Value.ref b] below meth c H [] 49 6369 (lw_Z below #[Value.ref b] s) (F0 m pc ls [.int 1]) := by
  intro T hT X
  obtain ⟨fs, hret, hrun, hended, hW, hframe⟩ := X.leave (v := some (.int 1)) (hlocks := hlocks) (fun h => by rw [hr] at h; cases h)
  have hmeth' : T.vm.method? m = some meth := X.method'
  refine ⟨T.setFrames fs, ?_, .returned (some (.int 1)), hrun, hended, rfl, ⟨_, rfl⟩, hW, hframe⟩
  jvm_step X.here [X.here.top, hx, hb, hdg, hmeth', hr, ret, narrow_b1]
  (try refine ⟨rfl, ?_⟩); (try refine ⟨rfl, ?_⟩)
  first | (intro acts; rw [hret _ acts rfl rfl rfl]) | rw [hret _ _ rfl rfl rfl]
  exact Steps.refl _
/-- what holds at the law's entry: the machine, the code, the tables' words (any of lw_tbl by 'hts w (by decide +kernel)'), the script of L ints xs at the cell b, what the Statement gives of the start (any of its parts by flat_of_before) -/
def lw_At (p : Program) (s : State) (m : MethodId) (meth : Method) (c : Code) (b L : Nat) (xs : Nat → Int32) : Prop :=
  p.tables.exec = Jvm.exec ∧ c.code = code ∧ meth.sig.returnType = ret ∧ c.maxLocals = 4 ∧ s.vm.findClass R_law = some m.cls ∧ (∀ w ∈ lw_tbl, w.before #[Value.ref b] s = true) ∧ va_X b L xs s s.heap ∧ b < s.heap.size ∧ meth.locks = false ∧ (Jvm.Cond.and given_1 narrow_1).before #[Value.ref b] s = true
theorem kv_46 : lw_tbl[46]? = some (Cond.initialized RX9) := by decide +kernel
theorem kv_50 : lw_tbl[50]? = some (Cond.initialized RX4) := by decide +kernel
theorem kv_56 : lw_tbl[56]? = some (Cond.initialized RX10) := by decide +kernel
theorem kv_61 : lw_tbl[61]? = some (Cond.classLink RL 7 RX9) := by decide +kernel
theorem kv_62 : lw_tbl[62]? = some (Cond.instantiable RX9 11) := by decide +kernel
theorem kv_63 : lw_tbl[63]? = some (Cond.methodLink RL 9 yX9_init) := by decide +kernel
theorem kv_64 : lw_tbl[64]? = some (Cond.instanceMethod yX9_init) := by decide +kernel
theorem kv_65 : lw_tbl[65]? = some (Cond.code yX9_init cX9_init 1 none) := by decide +kernel
theorem kv_70 : lw_tbl[70]? = some (Cond.instantiable RX2 1) := by decide +kernel
theorem kv_71 : lw_tbl[71]? = some (Cond.methodLinkNest "ReadFromRight" 11 yX2_init "ReadFromRight") := by decide +kernel
theorem kv_79 : lw_tbl[79]? = some (Cond.arrayClass .int) := by decide +kernel
theorem kv_81 : lw_tbl[81]? = some (Cond.instantiable RX1 6) := by decide +kernel
theorem kv_82 : lw_tbl[82]? = some (Cond.methodLinkNest "ReadFromRight" 18 yX1_init "ReadFromRight") := by decide +kernel
theorem kv_106 : lw_tbl[106]? = some (Cond.instantiable RX7 12) := by decide +kernel
theorem kv_149 : lw_tbl[149]? = some (Cond.instantiable RX4 3) := by decide +kernel
theorem kv_165 : lw_tbl[165]? = some (Cond.instantiable RX5 3) := by decide +kernel
theorem kv_181 : lw_tbl[181]? = some (Cond.instantiable RX0 4) := by decide +kernel
theorem kv_200 : lw_tbl[200]? = some (Cond.instantiable RX3 3) := by decide +kernel
theorem kv_216 : lw_tbl[216]? = some (Cond.instantiable RX8 3) := by decide +kernel
theorem kv_232 : lw_tbl[232]? = some (Cond.arrayOver (.object "ReadFromRight$Sheet")) := by decide +kernel
theorem kv_233 : lw_tbl[233]? = some (Cond.instantiable RX6 3) := by decide +kernel
theorem kv_234 : lw_tbl[234]? = some (Cond.methodLinkNest "ReadFromRight" 71 yX6_init "ReadFromRight") := by decide +kernel
theorem kv_366 : lw_tbl[366]? = some (Cond.laysStatic "ReadFromRight" "LAW_LEAST" "[I") := by decide +kernel
theorem kv_368 : lw_tbl[368]? = some (Cond.laysStatic "ReadFromRight" "LAW_MOST" "[I") := by decide +kernel
theorem kv_605 : lw_tbl[605]? = some (Cond.laysStatic "ReadFromRight$Partners" "ORDERS_BEHIND" "[I") := by decide +kernel
theorem kv_678 : lw_tbl[678]? = some (Cond.methodLinkNest "ReadFromRight$Sheet" 32 yX9_within "ReadFromRight") := by decide +kernel
theorem kv_744 : lw_tbl[744]? = some (Cond.classLink RL 10 RX10) := by decide +kernel
theorem kv_745 : lw_tbl[745]? = some (Cond.instantiable RX10 20) := by decide +kernel
theorem kv_746 : lw_tbl[746]? = some (Cond.methodLink RL 12 yX10_init) := by decide +kernel
theorem kv_747 : lw_tbl[747]? = some (Cond.instanceMethod yX10_init) := by decide +kernel
theorem kv_748 : lw_tbl[748]? = some (Cond.code yX10_init cX10_init 2 none) := by decide +kernel
theorem dl_0 : decode cL_law 0 = .ok (.new 7, 3) := by decide +kernel
theorem dl_3 : decode cL_law 3 = .ok (.dup, 1) := by decide +kernel
theorem dl_4 : decode cL_law 4 = .ok (.invokespecial 9, 3) := by decide +kernel
theorem dl_7 : decode cL_law 7 = .ok (.astore_n 1, 1) := by decide +kernel
theorem dl_8 : decode cL_law 8 = .ok (.new 10, 3) := by decide +kernel
theorem dl_11 : decode cL_law 11 = .ok (.dup, 1) := by decide +kernel
theorem dl_12 : decode cL_law 12 = .ok (.invokespecial 12, 3) := by decide +kernel
theorem dl_15 : decode cL_law 15 = .ok (.astore_n 2, 1) := by decide +kernel
set_option maxHeartbeats 16000000 in
set_option maxRecDepth 200000 in
/-- from the entry, for every script of at most 3072 ints, the law comes to its end with true -/
theorem whole_start {p : Program} {e : Env} {s : State} {m : MethodId} {below : List Frame} {meth : Method} {c : Code} (l : Launch) {b L : Nat} {xs : Nat → Int32} (hL : L ≤ 3072) (C0 : lw_At p s m meth c b L xs) : W p l e room_1 s m #[Value.ref b] below meth c s.heap [] 0 0 (lw_Z below #[Value.ref b] s) (entryFrame m ([Value.ref b] : List Value).toArray 4) := by
  obtain ⟨hx, hb, hr, hml, hown, hts0, hX, hbl, hlocks, hgv⟩ := id C0
  have hb : c.code = cL_law := hb
  have hown : s.vm.findClass RL = some m.cls := hown
  have hts : ∀ w ∈ pm_tb, w.before #[Value.ref b] s = true := fun w hw => hts0 w (List.mem_filter.mp hw).1
  obtain ⟨c0, iS0, hKn0⟩ := u_known (C := RX0) (T := TX0) (N := 4) (n := 4) hts (pm_cls (a := 0) (q := (RX0, TX0, 4)) rfl).1 (pm_word hts rfl kv_181)
  obtain ⟨c1, iS1, hKn1⟩ := u_known (C := RX1) (T := TX1) (N := 6) (n := 6) hts (pm_cls (a := 1) (q := (RX1, TX1, 6)) rfl).1 (pm_word hts rfl kv_81)
  obtain ⟨c2, iS2, hKn2⟩ := u_known (C := RX2) (T := TX2) (N := 1) (n := 1) hts (pm_cls (a := 2) (q := (RX2, TX2, 1)) rfl).1 (pm_word hts rfl kv_70)
  obtain ⟨c3, iS3, hKn3⟩ := u_known (C := RX3) (T := TX3) (N := 3) (n := 3) hts (pm_cls (a := 3) (q := (RX3, TX3, 3)) rfl).1 (pm_word hts rfl kv_200)
  obtain ⟨c4, iS4, hKn4⟩ := u_known (C := RX4) (T := TX4) (N := 3) (n := 3) hts (pm_cls (a := 4) (q := (RX4, TX4, 3)) rfl).1 (pm_word hts rfl kv_149)
  obtain ⟨c5, iS5, hKn5⟩ := u_known (C := RX5) (T := TX5) (N := 3) (n := 3) hts (pm_cls (a := 5) (q := (RX5, TX5, 3)) rfl).1 (pm_word hts rfl kv_165)
  obtain ⟨c6, iS6, hKn6⟩ := u_known (C := RX6) (T := TX6) (N := 3) (n := 3) hts (pm_cls (a := 6) (q := (RX6, TX6, 3)) rfl).1 (pm_word hts rfl kv_233)
  obtain ⟨c7, iS7, hKn7⟩ := u_known (C := RX7) (T := TX7) (N := 12) (n := 12) hts (pm_cls (a := 7) (q := (RX7, TX7, 12)) rfl).1 (pm_word hts rfl kv_106)
  obtain ⟨c8, iS8, hKn8⟩ := u_known (C := RX8) (T := TX8) (N := 3) (n := 3) hts (pm_cls (a := 8) (q := (RX8, TX8, 3)) rfl).1 (pm_word hts rfl kv_216)
  obtain ⟨c9, iS9, hKn9⟩ := u_known (C := RX9) (T := TX9) (N := 11) (n := 11) hts (pm_cls (a := 9) (q := (RX9, TX9, 11)) rfl).1 (pm_word hts rfl kv_62)
  obtain ⟨c10, iS10, hKn10⟩ := u_known (C := RX10) (T := TX10) (N := 20) (n := 20) hts (pm_cls (a := 10) (q := (RX10, TX10, 20)) rfl).1 (pm_word hts rfl kv_745)
  obtain ⟨cI, kI, compI, i1, i2, i3⟩ := Cond.arrayClass_spec (pm_word hts rfl kv_79)
  have hAO : va_AO "ReadFromRight$Sheet" s := va_AO.of (hts0 _ (List.mem_of_getElem? kv_232))
  obtain ⟨compS, cS, kS, s1, s2, s3, s4, s5⟩ := Cond.arrayOver_spec (va_AO.use (A := #[Value.ref b]) hAO)
  obtain ⟨D, hK⟩ : ∃ D : va_G, va_K D classes (pm_tys cI cS) s := by
    refine ⟨(fun k => match k with | 0 => c0 | 1 => c1 | 2 => c2 | 3 => c3 | 4 => c4 | 5 => c5 | 6 => c6 | 7 => c7 | 8 => c8 | 9 => c9 | _ => c10, fun k => match k with | 0 => iS0 | 1 => iS1 | 2 => iS2 | 3 => iS3 | 4 => iS4 | 5 => iS5 | 6 => iS6 | 7 => iS7 | 8 => iS8 | 9 => iS9 | _ => iS10), fun k q hq => ?_, fun k q hq => ?_⟩
    · match k, hq with
      | 0, hq => cases hq; exact hKn0
      | 1, hq => cases hq; exact hKn1
      | 2, hq => cases hq; exact hKn2
      | 3, hq => cases hq; exact hKn3
      | 4, hq => cases hq; exact hKn4
      | 5, hq => cases hq; exact hKn5
      | 6, hq => cases hq; exact hKn6
      | 7, hq => cases hq; exact hKn7
      | 8, hq => cases hq; exact hKn8
      | 9, hq => cases hq; exact hKn9
      | 10, hq => cases hq; exact hKn10
      | k + 11, hq => simp [classes] at hq
    · match k, hq with
      | 0, hq => cases hq; exact ⟨fun N z => ⟨fun k h => (by cases h), kI, i2, compI, i3⟩, i1⟩
      | 1, hq => cases hq; exact ⟨fun N z => ⟨fun k h => (by cases h), kS, s3, compS, s4⟩, kS, compS, s3, s4, s1, s5⟩
      | k + 2, hq => simp at hq
  have hN11 : va_Nw (.methodLinkNest "ReadFromRight" 11 yX2_init "ReadFromRight") s := va_Nw.of rfl (hts0 _ (List.mem_of_getElem? kv_71))
  have hN18 : va_Nw (.methodLinkNest "ReadFromRight" 18 yX1_init "ReadFromRight") s := va_Nw.of rfl (hts0 _ (List.mem_of_getElem? kv_82))
  have hN71 : va_Nw (.methodLinkNest "ReadFromRight" 71 yX6_init "ReadFromRight") s := va_Nw.of rfl (hts0 _ (List.mem_of_getElem? kv_234))
  have hNw : va_Nw (.methodLinkNest "ReadFromRight$Sheet" 32 yX9_within "ReadFromRight") s := va_Nw.of rfl (hts0 _ (List.mem_of_getElem? kv_678))
  have hHA : ∀ a : Nat, a < s.heap.size → ¬ (fun q : Nat => s.heap.size ≤ q) a := fun a h => Nat.not_le.mpr h
  have hg := flat_of_before _ hgv
  obtain ⟨t49, v49, T49⟩ := va_Tof (ty := .int) (N := 4) (f := fun j => .int (c49 j)) (A := (fun q : Nat => s.heap.size ≤ q)) (by decide) (hg (.arrayOf (.static "ReadFromRight" "LAW_LEAST" "[I") .int) (by decide +kernel)) (va_eqt (z := 4) (hg (.eq (.length (.static "ReadFromRight" "LAW_LEAST" "[I")) (.int 4)) (by decide +kernel))) (fun j hj => by
    rcases (show j = 0 ∨ j = 1 ∨ j = 2 ∨ j = 3 by omega) with rfl | rfl | rfl | rfl
    · exact va_eqt (z := 2) (hg (.eq (.elem (.static "ReadFromRight" "LAW_LEAST" "[I") (.int 0)) (.int 2)) (by decide +kernel))
    · exact va_eqt (z := 0) (hg (.eq (.elem (.static "ReadFromRight" "LAW_LEAST" "[I") (.int 1)) (.int 0)) (by decide +kernel))
    · exact va_eqt (z := 0) (hg (.eq (.elem (.static "ReadFromRight" "LAW_LEAST" "[I") (.int 2)) (.int 0)) (by decide +kernel))
    · exact va_eqt (z := 1) (hg (.eq (.elem (.static "ReadFromRight" "LAW_LEAST" "[I") (.int 3)) (.int 1)) (by decide +kernel))) hHA
  have Z49 := va_Zref (A := (fun q : Nat => s.heap.size ≤ q)) (hts0 _ (List.mem_of_getElem? kv_366)) (hts0 _ (List.mem_of_getElem? kv_46)) v49 hHA
  obtain ⟨t50, v50, T50⟩ := va_Tof (ty := .int) (N := 4) (f := fun j => .int (c50 j)) (A := (fun q : Nat => s.heap.size ≤ q)) (by decide) (hg (.arrayOf (.static "ReadFromRight" "LAW_MOST" "[I") .int) (by decide +kernel)) (va_eqt (z := 4) (hg (.eq (.length (.static "ReadFromRight" "LAW_MOST" "[I")) (.int 4)) (by decide +kernel))) (fun j hj => by
    rcases (show j = 0 ∨ j = 1 ∨ j = 2 ∨ j = 3 by omega) with rfl | rfl | rfl | rfl
    · exact va_eqt (z := 36) (hg (.eq (.elem (.static "ReadFromRight" "LAW_MOST" "[I") (.int 0)) (.int 36)) (by decide +kernel))
    · exact va_eqt (z := 1) (hg (.eq (.elem (.static "ReadFromRight" "LAW_MOST" "[I") (.int 1)) (.int 1)) (by decide +kernel))
    · exact va_eqt (z := 99) (hg (.eq (.elem (.static "ReadFromRight" "LAW_MOST" "[I") (.int 2)) (.int 99)) (by decide +kernel))
    · exact va_eqt (z := 4) (hg (.eq (.elem (.static "ReadFromRight" "LAW_MOST" "[I") (.int 3)) (.int 4)) (by decide +kernel))) hHA
  have Z50 := va_Zref (A := (fun q : Nat => s.heap.size ≤ q)) (hts0 _ (List.mem_of_getElem? kv_368)) (hts0 _ (List.mem_of_getElem? kv_46)) v50 hHA
  obtain ⟨t51, v51, T51⟩ := va_Tof (ty := .int) (N := 4) (f := fun j => .int (c51 j)) (A := (fun q : Nat => s.heap.size ≤ q)) (by decide) (hg (.arrayOf (.static "ReadFromRight$Partners" "ORDERS_BEHIND" "[I") .int) (by decide +kernel)) (va_eqt (z := 4) (hg (.eq (.length (.static "ReadFromRight$Partners" "ORDERS_BEHIND" "[I")) (.int 4)) (by decide +kernel))) (fun j hj => by
    rcases (show j = 0 ∨ j = 1 ∨ j = 2 ∨ j = 3 by omega) with rfl | rfl | rfl | rfl
    · exact va_eqt (z := 6) (hg (.eq (.elem (.static "ReadFromRight$Partners" "ORDERS_BEHIND" "[I") (.int 0)) (.int 6)) (by decide +kernel))
    · exact va_eqt (z := 2) (hg (.eq (.elem (.static "ReadFromRight$Partners" "ORDERS_BEHIND" "[I") (.int 1)) (.int 2)) (by decide +kernel))
    · exact va_eqt (z := 2) (hg (.eq (.elem (.static "ReadFromRight$Partners" "ORDERS_BEHIND" "[I") (.int 2)) (.int 2)) (by decide +kernel))
    · exact va_eqt (z := 6) (hg (.eq (.elem (.static "ReadFromRight$Partners" "ORDERS_BEHIND" "[I") (.int 3)) (.int 6)) (by decide +kernel))) hHA
  have Z51 := va_Zref (A := (fun q : Nat => s.heap.size ≤ q)) (hts0 _ (List.mem_of_getElem? kv_605)) (hts0 _ (List.mem_of_getElem? kv_50)) v51 hHA
  have hA : ∀ q : Nat, s.heap.size ≤ q → (fun q : Nat => s.heap.size ≤ q) q := fun _ h => h
  have hbA : ¬ (fun q : Nat => s.heap.size ≤ q) b := Nat.not_le.mpr hbl
  have hS : va_S (fun q : Nat => s.heap.size ≤ q) s.heap s.heap [] := va_S.rf
  have hP : va_P D classes [] s.heap := fun k q h => by simp at h
  have hD : va_D (fun q : Nat => s.heap.size ≤ q) [] := ⟨fun i j p q h => by simp at h, fun k q h => by simp at h⟩
  have hl := lv_entry ([.ref b]) (n := 4) (Nat.le_of_ble_eq_true rfl)
  rw [lg_entry_eq]
  generalize (lg_sl ([.ref b]) ++ List.replicate (4 - (lg_sl ([.ref b])).length) Slot.unset).toArray = ls at hl ⊢
  have hl : lv_has ls 4 [(0, .ref b)] := hl
  refine va_new (ci := 9) (fs := [.null, .null, .null, .null, .null, .null, .null, .null, .null, .null, .int 0]) (C := RX9) (T := TX9) (N := 11) hx hb hts (pm_cls (a := 9) (q := (RX9, TX9, 11)) rfl).1 tyX9 tyX9_ok hown (pm_word hts rfl kv_61) (pm_word hts rfl kv_62) (pm_word hts rfl kv_46) hK hP hD hS hA rfl (fun j hj => by rcases (show j = 0 ∨ j = 1 ∨ j = 2 ∨ j = 3 ∨ j = 4 ∨ j = 5 ∨ j = 6 ∨ j = 7 ∨ j = 8 ∨ j = 9 ∨ j = 10 by omega) with rfl | rfl | rfl | rfl | rfl | rfl | rfl | rfl | rfl | rfl | rfl <;> rfl) (Nat.le_of_ble_eq_true rfl) (Nat.le_of_ble_eq_true rfl) dl_0 (fun b0 H hP hD hS => ?_)
  have hP : va_P D classes [(b0, .inr (9, [.null, .null, .null, .null, .null, .null, .null, .null, .null, .null, .int 0]))] H := hP
  have hD : va_D (fun q : Nat => s.heap.size ≤ q) [(b0, .inr (9, [.null, .null, .null, .null, .null, .null, .null, .null, .null, .null, .int 0]))] := hD
  refine lv_dup hx hb dl_3 rfl ?_
  have hPc := hP.sub (ws' := [(b0, .inr (9, [.null, .null, .null, .null, .null, .null, .null, .null, .null, .null, .int 0]))]) [0] rfl
  have hDc := hD.sub (ws' := [(b0, .inr (9, [.null, .null, .null, .null, .null, .null, .null, .null, .null, .null, .int 0]))]) [0] (by decide) rfl
  have hFc := va_free (wc := [(b0, .inr (9, [.null, .null, .null, .null, .null, .null, .null, .null, .null, .null, .int 0]))]) hD hS hA [0] rfl
  refine va_callv (va_runI (As := []) (rest := [.ref b0]) ⟨hx, hb, hml, hown, hts⟩ (k_X9_init l D cI cS b0 H.size) (cwI 0 hts (k_good (pm_mem rfl kv_65)) rfl rfl rfl (pm_word hts rfl kv_46) (pm_word hts rfl kv_63) (pm_word hts rfl kv_64) rfl (by decide +kernel) ⟨Nat.le_of_ble_eq_true rfl, Nat.le_of_ble_eq_true rfl⟩) ⟨kPreN.blind, fun U hU hW => ⟨rfl, by rw [hU], by rw [hU]; exact hPc, va_K.moved hW.alike hK, hDc.weaken (fun _ _ _ _ => trivial), va_AO.moved hW.alike hAO, va_Nw.warmM hW hN11, va_Nw.warmM hW hN18, va_Nw.warmM hW hN71⟩⟩ rfl rfl hl.1 rfl (lv_room (Nat.le_of_ble_eq_true rfl)) dl_4 ⟨Nat.le_of_ble_eq_true rfl, Nat.le_of_ble_eq_true rfl⟩) hS (fun q _ h => hFc q h) hFc (fun u t H1 locs ht hvm hw hB hz1 hk1 hS => ?_)
  obtain ⟨b1, b2, b3, b4, b5, b6, b7, b8, b9, b10, b11, b12, b13, b14, b15, b16, b17, b18, b19, b20, b21, b22, b23, b24, b25, b26, b27, b28, b29, b30, b31, b32, hP1, hD1⟩ := hB
  rw [ht] at hP1
  obtain ⟨hP, hD⟩ := va_join (wr := []) (w1 := [(b0, .inr (9, [.ref b1, .ref b3, .ref b6, .ref b11, .ref b13, .ref b15, .ref b17, .ref b20, .ref b23, .ref b32, .int 0])), (b1, .inr (2, [.ref b2])), (b2, .inl (cI, 4, .inl (upd (upd (upd (upd (fun _ => 0) 0 10) 1 0) 2 0) 3 1))), (b3, .inr (1, [.ref b4, .ref b5, .int 0, .int 0, .int 0, .int (-1)])), (b4, .inl (cI, 50, .inl (fun _ => 0))), (b5, .inl (cI, 8, .inl (fun _ => 0))), (b6, .inr (7, [.ref b1, .ref b3, .ref b7, .ref b8, .ref b9, .ref b10, .int 0, .int 0, .int 0, .int 0, .int 0, .int 0])), (b7, .inl (cI, 256, .inl (fun _ => 0))), (b8, .inl (cI, 256, .inl (fun _ => 0))), (b9, .inl (cI, 256, .inl (fun _ => 0))), (b10, .inl (cI, 256, .inl (fun _ => 0))), (b11, .inr (4, [.ref b1, .ref b3, .ref b12])), (b12, .inl (cI, 8, .inl (fun _ => 0))), (b13, .inr (5, [.ref b1, .ref b14, .int 0])), (b14, .inl (cI, 201, .inl (fun _ => 0))), (b15, .inr (0, [.ref b1, .ref b16, .int 0, .int (-1)])), (b16, .inl (cI, 4, .inl (fun _ => 0))), (b17, .inr (3, [.ref b1, .ref b18, .ref b19])), (b18, .inl (cI, 121, .inl (fun _ => 0))), (b19, .inl (cI, 121, .inl (fun _ => 0))), (b20, .inr (8, [.ref b1, .ref b21, .ref b22])), (b21, .inl (cI, 209, .inl (fun _ => 0))), (b22, .inl (cI, 209, .inl (fun _ => 0))), (b23, .inl (cS, 4, .inr (.inr (.inr (.inr (va_up (va_up (va_up (va_up (fun _ => none) 0 (some b24)) 1 (some b26)) 2 (some b28)) 3 (some b30))))))), (b24, .inr (6, [.ref b25, .int (-1), .int 0])), (b25, .inl (cI, 60, .inl (fun _ => 0))), (b26, .inr (6, [.ref b27, .int (-1), .int 0])), (b27, .inl (cI, 60, .inl (fun _ => 0))), (b28, .inr (6, [.ref b29, .int (-1), .int 0])), (b29, .inl (cI, 60, .inl (fun _ => 0))), (b30, .inr (6, [.ref b31, .int (-1), .int 0])), (b31, .inl (cI, 60, .inl (fun _ => 0))), (b32, .inl (cI, 31, .inl (fun _ => 0)))]) hP hD [0] [] rfl rfl (by decide) (by decide) hk1 hFc hP1 hD1
  generalize H1 = H at hP hS ⊢
  have hP : va_P D classes [(b0, .inr (9, [.ref b1, .ref b3, .ref b6, .ref b11, .ref b13, .ref b15, .ref b17, .ref b20, .ref b23, .ref b32, .int 0])), (b1, .inr (2, [.ref b2])), (b2, .inl (cI, 4, .inl (upd (upd (upd (upd (fun _ => 0) 0 10) 1 0) 2 0) 3 1))), (b3, .inr (1, [.ref b4, .ref b5, .int 0, .int 0, .int 0, .int (-1)])), (b4, .inl (cI, 50, .inl (fun _ => 0))), (b5, .inl (cI, 8, .inl (fun _ => 0))), (b6, .inr (7, [.ref b1, .ref b3, .ref b7, .ref b8, .ref b9, .ref b10, .int 0, .int 0, .int 0, .int 0, .int 0, .int 0])), (b7, .inl (cI, 256, .inl (fun _ => 0))), (b8, .inl (cI, 256, .inl (fun _ => 0))), (b9, .inl (cI, 256, .inl (fun _ => 0))), (b10, .inl (cI, 256, .inl (fun _ => 0))), (b11, .inr (4, [.ref b1, .ref b3, .ref b12])), (b12, .inl (cI, 8, .inl (fun _ => 0))), (b13, .inr (5, [.ref b1, .ref b14, .int 0])), (b14, .inl (cI, 201, .inl (fun _ => 0))), (b15, .inr (0, [.ref b1, .ref b16, .int 0, .int (-1)])), (b16, .inl (cI, 4, .inl (fun _ => 0))), (b17, .inr (3, [.ref b1, .ref b18, .ref b19])), (b18, .inl (cI, 121, .inl (fun _ => 0))), (b19, .inl (cI, 121, .inl (fun _ => 0))), (b20, .inr (8, [.ref b1, .ref b21, .ref b22])), (b21, .inl (cI, 209, .inl (fun _ => 0))), (b22, .inl (cI, 209, .inl (fun _ => 0))), (b23, .inl (cS, 4, .inr (.inr (.inr (.inr (va_up (va_up (va_up (va_up (fun _ => none) 0 (some b24)) 1 (some b26)) 2 (some b28)) 3 (some b30))))))), (b24, .inr (6, [.ref b25, .int (-1), .int 0])), (b25, .inl (cI, 60, .inl (fun _ => 0))), (b26, .inr (6, [.ref b27, .int (-1), .int 0])), (b27, .inl (cI, 60, .inl (fun _ => 0))), (b28, .inr (6, [.ref b29, .int (-1), .int 0])), (b29, .inl (cI, 60, .inl (fun _ => 0))), (b30, .inr (6, [.ref b31, .int (-1), .int 0])), (b31, .inl (cI, 60, .inl (fun _ => 0))), (b32, .inl (cI, 31, .inl (fun _ => 0)))] H := hP
  have hD : va_D (fun q : Nat => s.heap.size ≤ q) [(b0, .inr (9, [.ref b1, .ref b3, .ref b6, .ref b11, .ref b13, .ref b15, .ref b17, .ref b20, .ref b23, .ref b32, .int 0])), (b1, .inr (2, [.ref b2])), (b2, .inl (cI, 4, .inl (upd (upd (upd (upd (fun _ => 0) 0 10) 1 0) 2 0) 3 1))), (b3, .inr (1, [.ref b4, .ref b5, .int 0, .int 0, .int 0, .int (-1)])), (b4, .inl (cI, 50, .inl (fun _ => 0))), (b5, .inl (cI, 8, .inl (fun _ => 0))), (b6, .inr (7, [.ref b1, .ref b3, .ref b7, .ref b8, .ref b9, .ref b10, .int 0, .int 0, .int 0, .int 0, .int 0, .int 0])), (b7, .inl (cI, 256, .inl (fun _ => 0))), (b8, .inl (cI, 256, .inl (fun _ => 0))), (b9, .inl (cI, 256, .inl (fun _ => 0))), (b10, .inl (cI, 256, .inl (fun _ => 0))), (b11, .inr (4, [.ref b1, .ref b3, .ref b12])), (b12, .inl (cI, 8, .inl (fun _ => 0))), (b13, .inr (5, [.ref b1, .ref b14, .int 0])), (b14, .inl (cI, 201, .inl (fun _ => 0))), (b15, .inr (0, [.ref b1, .ref b16, .int 0, .int (-1)])), (b16, .inl (cI, 4, .inl (fun _ => 0))), (b17, .inr (3, [.ref b1, .ref b18, .ref b19])), (b18, .inl (cI, 121, .inl (fun _ => 0))), (b19, .inl (cI, 121, .inl (fun _ => 0))), (b20, .inr (8, [.ref b1, .ref b21, .ref b22])), (b21, .inl (cI, 209, .inl (fun _ => 0))), (b22, .inl (cI, 209, .inl (fun _ => 0))), (b23, .inl (cS, 4, .inr (.inr (.inr (.inr (va_up (va_up (va_up (va_up (fun _ => none) 0 (some b24)) 1 (some b26)) 2 (some b28)) 3 (some b30))))))), (b24, .inr (6, [.ref b25, .int (-1), .int 0])), (b25, .inl (cI, 60, .inl (fun _ => 0))), (b26, .inr (6, [.ref b27, .int (-1), .int 0])), (b27, .inl (cI, 60, .inl (fun _ => 0))), (b28, .inr (6, [.ref b29, .int (-1), .int 0])), (b29, .inl (cI, 60, .inl (fun _ => 0))), (b30, .inr (6, [.ref b31, .int (-1), .int 0])), (b31, .inl (cI, 60, .inl (fun _ => 0))), (b32, .inl (cI, 31, .inl (fun _ => 0)))] := hD
  refine W.widen (k := 33) (n := 2292) (Nat.le_of_ble_eq_true rfl) (Nat.le_of_ble_eq_true rfl) ?_
  refine lv_astore_n (lv' := [(1, .ref b0), (0, .ref b)]) hx hb dl_7 rfl hl (by decide) rfl (fun ls hl => ?_)
  refine va_new (ci := 10) (fs := [.null, .null, .null, .null, .int 0, .null, .int 0, .int 0, .int 0, .null, .int 0, .null, .null, .null, .null, .null, .null, .null, .null, .null]) (C := RX10) (T := TX10) (N := 20) hx hb hts (pm_cls (a := 10) (q := (RX10, TX10, 20)) rfl).1 tyX10 tyX10_ok hown (pm_word hts rfl kv_744) (pm_word hts rfl kv_745) (pm_word hts rfl kv_56) hK hP hD hS hA rfl (fun j hj => by rcases (show j = 0 ∨ j = 1 ∨ j = 2 ∨ j = 3 ∨ j = 4 ∨ j = 5 ∨ j = 6 ∨ j = 7 ∨ j = 8 ∨ j = 9 ∨ j = 10 ∨ j = 11 ∨ j = 12 ∨ j = 13 ∨ j = 14 ∨ j = 15 ∨ j = 16 ∨ j = 17 ∨ j = 18 ∨ j = 19 by omega) with rfl | rfl | rfl | rfl | rfl | rfl | rfl | rfl | rfl | rfl | rfl | rfl | rfl | rfl | rfl | rfl | rfl | rfl | rfl | rfl <;> rfl) (Nat.le_of_ble_eq_true rfl) (Nat.le_of_ble_eq_true rfl) dl_8 (fun b33 H hP hD hS => ?_)
  have hP : va_P D classes [(b0, .inr (9, [.ref b1, .ref b3, .ref b6, .ref b11, .ref b13, .ref b15, .ref b17, .ref b20, .ref b23, .ref b32, .int 0])), (b1, .inr (2, [.ref b2])), (b2, .inl (cI, 4, .inl (upd (upd (upd (upd (fun _ => 0) 0 10) 1 0) 2 0) 3 1))), (b3, .inr (1, [.ref b4, .ref b5, .int 0, .int 0, .int 0, .int (-1)])), (b4, .inl (cI, 50, .inl (fun _ => 0))), (b5, .inl (cI, 8, .inl (fun _ => 0))), (b6, .inr (7, [.ref b1, .ref b3, .ref b7, .ref b8, .ref b9, .ref b10, .int 0, .int 0, .int 0, .int 0, .int 0, .int 0])), (b7, .inl (cI, 256, .inl (fun _ => 0))), (b8, .inl (cI, 256, .inl (fun _ => 0))), (b9, .inl (cI, 256, .inl (fun _ => 0))), (b10, .inl (cI, 256, .inl (fun _ => 0))), (b11, .inr (4, [.ref b1, .ref b3, .ref b12])), (b12, .inl (cI, 8, .inl (fun _ => 0))), (b13, .inr (5, [.ref b1, .ref b14, .int 0])), (b14, .inl (cI, 201, .inl (fun _ => 0))), (b15, .inr (0, [.ref b1, .ref b16, .int 0, .int (-1)])), (b16, .inl (cI, 4, .inl (fun _ => 0))), (b17, .inr (3, [.ref b1, .ref b18, .ref b19])), (b18, .inl (cI, 121, .inl (fun _ => 0))), (b19, .inl (cI, 121, .inl (fun _ => 0))), (b20, .inr (8, [.ref b1, .ref b21, .ref b22])), (b21, .inl (cI, 209, .inl (fun _ => 0))), (b22, .inl (cI, 209, .inl (fun _ => 0))), (b23, .inl (cS, 4, .inr (.inr (.inr (.inr (va_up (va_up (va_up (va_up (fun _ => none) 0 (some b24)) 1 (some b26)) 2 (some b28)) 3 (some b30))))))), (b24, .inr (6, [.ref b25, .int (-1), .int 0])), (b25, .inl (cI, 60, .inl (fun _ => 0))), (b26, .inr (6, [.ref b27, .int (-1), .int 0])), (b27, .inl (cI, 60, .inl (fun _ => 0))), (b28, .inr (6, [.ref b29, .int (-1), .int 0])), (b29, .inl (cI, 60, .inl (fun _ => 0))), (b30, .inr (6, [.ref b31, .int (-1), .int 0])), (b31, .inl (cI, 60, .inl (fun _ => 0))), (b32, .inl (cI, 31, .inl (fun _ => 0))), (b33, .inr (10, [.null, .null, .null, .null, .int 0, .null, .int 0, .int 0, .int 0, .null, .int 0, .null, .null, .null, .null, .null, .null, .null, .null, .null]))] H := hP
  have hD : va_D (fun q : Nat => s.heap.size ≤ q) [(b0, .inr (9, [.ref b1, .ref b3, .ref b6, .ref b11, .ref b13, .ref b15, .ref b17, .ref b20, .ref b23, .ref b32, .int 0])), (b1, .inr (2, [.ref b2])), (b2, .inl (cI, 4, .inl (upd (upd (upd (upd (fun _ => 0) 0 10) 1 0) 2 0) 3 1))), (b3, .inr (1, [.ref b4, .ref b5, .int 0, .int 0, .int 0, .int (-1)])), (b4, .inl (cI, 50, .inl (fun _ => 0))), (b5, .inl (cI, 8, .inl (fun _ => 0))), (b6, .inr (7, [.ref b1, .ref b3, .ref b7, .ref b8, .ref b9, .ref b10, .int 0, .int 0, .int 0, .int 0, .int 0, .int 0])), (b7, .inl (cI, 256, .inl (fun _ => 0))), (b8, .inl (cI, 256, .inl (fun _ => 0))), (b9, .inl (cI, 256, .inl (fun _ => 0))), (b10, .inl (cI, 256, .inl (fun _ => 0))), (b11, .inr (4, [.ref b1, .ref b3, .ref b12])), (b12, .inl (cI, 8, .inl (fun _ => 0))), (b13, .inr (5, [.ref b1, .ref b14, .int 0])), (b14, .inl (cI, 201, .inl (fun _ => 0))), (b15, .inr (0, [.ref b1, .ref b16, .int 0, .int (-1)])), (b16, .inl (cI, 4, .inl (fun _ => 0))), (b17, .inr (3, [.ref b1, .ref b18, .ref b19])), (b18, .inl (cI, 121, .inl (fun _ => 0))), (b19, .inl (cI, 121, .inl (fun _ => 0))), (b20, .inr (8, [.ref b1, .ref b21, .ref b22])), (b21, .inl (cI, 209, .inl (fun _ => 0))), (b22, .inl (cI, 209, .inl (fun _ => 0))), (b23, .inl (cS, 4, .inr (.inr (.inr (.inr (va_up (va_up (va_up (va_up (fun _ => none) 0 (some b24)) 1 (some b26)) 2 (some b28)) 3 (some b30))))))), (b24, .inr (6, [.ref b25, .int (-1), .int 0])), (b25, .inl (cI, 60, .inl (fun _ => 0))), (b26, .inr (6, [.ref b27, .int (-1), .int 0])), (b27, .inl (cI, 60, .inl (fun _ => 0))), (b28, .inr (6, [.ref b29, .int (-1), .int 0])), (b29, .inl (cI, 60, .inl (fun _ => 0))), (b30, .inr (6, [.ref b31, .int (-1), .int 0])), (b31, .inl (cI, 60, .inl (fun _ => 0))), (b32, .inl (cI, 31, .inl (fun _ => 0))), (b33, .inr (10, [.null, .null, .null, .null, .int 0, .null, .int 0, .int 0, .int 0, .null, .int 0, .null, .null, .null, .null, .null, .null, .null, .null, .null]))] := hD
  refine lv_dup hx hb dl_11 rfl ?_
  have hPc := hP.sub (ws' := [(b33, .inr (10, [.null, .null, .null, .null, .int 0, .null, .int 0, .int 0, .int 0, .null, .int 0, .null, .null, .null, .null, .null, .null, .null, .null, .null]))]) [33] rfl
  have hDc := hD.sub (ws' := [(b33, .inr (10, [.null, .null, .null, .null, .int 0, .null, .int 0, .int 0, .int 0, .null, .int 0, .null, .null, .null, .null, .null, .null, .null, .null, .null]))]) [33] (by decide) rfl
  have hFc := va_free (wc := [(b33, .inr (10, [.null, .null, .null, .null, .int 0, .null, .int 0, .int 0, .int 0, .null, .int 0, .null, .null, .null, .null, .null, .null, .null, .null, .null]))]) hD hS hA [33] rfl
  refine va_callv (va_runI (As := []) (rest := [.ref b33]) ⟨hx, hb, hml, hown, hts⟩ (k_X10_init l D cI cS b33 H.size) (cwI 0 hts (k_good (pm_mem rfl kv_748)) rfl rfl rfl (pm_word hts rfl kv_56) (pm_word hts rfl kv_746) (pm_word hts rfl kv_747) rfl (by decide +kernel) ⟨Nat.le_of_ble_eq_true rfl, Nat.le_of_ble_eq_true rfl⟩) ⟨kPre.blind, fun U hU hW => ⟨rfl, by rw [hU], by rw [hU]; exact hPc, va_K.moved hW.alike hK, hDc.weaken (fun _ _ _ _ => trivial)⟩⟩ rfl rfl hl.1 rfl (lv_room (Nat.le_of_ble_eq_true rfl)) dl_12 ⟨Nat.le_of_ble_eq_true rfl, Nat.le_of_ble_eq_true rfl⟩) hS (fun q _ h => hFc q h) hFc (fun u t H1 locs ht hvm hw hB hz1 hk1 hS => ?_)
  obtain ⟨b34, b35, b36, b37, b38, b39, b40, b41, b42, b43, b44, b45, b46, b47, b48, hP1, hD1⟩ := hB
  rw [ht] at hP1
  obtain ⟨hP, hD⟩ := va_join (wr := [(b0, .inr (9, [.ref b1, .ref b3, .ref b6, .ref b11, .ref b13, .ref b15, .ref b17, .ref b20, .ref b23, .ref b32, .int 0])), (b1, .inr (2, [.ref b2])), (b2, .inl (cI, 4, .inl (upd (upd (upd (upd (fun _ => 0) 0 10) 1 0) 2 0) 3 1))), (b3, .inr (1, [.ref b4, .ref b5, .int 0, .int 0, .int 0, .int (-1)])), (b4, .inl (cI, 50, .inl (fun _ => 0))), (b5, .inl (cI, 8, .inl (fun _ => 0))), (b6, .inr (7, [.ref b1, .ref b3, .ref b7, .ref b8, .ref b9, .ref b10, .int 0, .int 0, .int 0, .int 0, .int 0, .int 0])), (b7, .inl (cI, 256, .inl (fun _ => 0))), (b8, .inl (cI, 256, .inl (fun _ => 0))), (b9, .inl (cI, 256, .inl (fun _ => 0))), (b10, .inl (cI, 256, .inl (fun _ => 0))), (b11, .inr (4, [.ref b1, .ref b3, .ref b12])), (b12, .inl (cI, 8, .inl (fun _ => 0))), (b13, .inr (5, [.ref b1, .ref b14, .int 0])), (b14, .inl (cI, 201, .inl (fun _ => 0))), (b15, .inr (0, [.ref b1, .ref b16, .int 0, .int (-1)])), (b16, .inl (cI, 4, .inl (fun _ => 0))), (b17, .inr (3, [.ref b1, .ref b18, .ref b19])), (b18, .inl (cI, 121, .inl (fun _ => 0))), (b19, .inl (cI, 121, .inl (fun _ => 0))), (b20, .inr (8, [.ref b1, .ref b21, .ref b22])), (b21, .inl (cI, 209, .inl (fun _ => 0))), (b22, .inl (cI, 209, .inl (fun _ => 0))), (b23, .inl (cS, 4, .inr (.inr (.inr (.inr (va_up (va_up (va_up (va_up (fun _ => none) 0 (some b24)) 1 (some b26)) 2 (some b28)) 3 (some b30))))))), (b24, .inr (6, [.ref b25, .int (-1), .int 0])), (b25, .inl (cI, 60, .inl (fun _ => 0))), (b26, .inr (6, [.ref b27, .int (-1), .int 0])), (b27, .inl (cI, 60, .inl (fun _ => 0))), (b28, .inr (6, [.ref b29, .int (-1), .int 0])), (b29, .inl (cI, 60, .inl (fun _ => 0))), (b30, .inr (6, [.ref b31, .int (-1), .int 0])), (b31, .inl (cI, 60, .inl (fun _ => 0))), (b32, .inl (cI, 31, .inl (fun _ => 0)))]) (w1 := [(b33, .inr (10, [.ref b34, .ref b35, .ref b36, .ref b37, .int 0, .ref b38, .int 0, .int 0, .int 0, .ref b39, .int 0, .ref b40, .ref b41, .ref b42, .ref b43, .ref b44, .ref b45, .ref b46, .ref b47, .ref b48])), (b34, .inl (cI, 4, .inl (upd (upd (upd (upd (fun _ => 0) 0 (-1)) 1 (-1)) 2 (-1)) 3 (-1)))), (b35, .inl (cI, 4, .inl (fun _ => 0))), (b36, .inl (cI, 240, .inl (fun _ => 0))), (b37, .inl (cI, 60, .inl (fun _ => 0))), (b38, .inl (cI, 50, .inl (fun _ => 0))), (b39, .inl (cI, 8, .inl (fun _ => 0))), (b40, .inl (cI, 8, .inl (fun _ => 0))), (b41, .inl (cI, 4, .inl (upd (upd (fun _ => 0) 0 10) 3 1))), (b42, .inl (cI, 1280, .inl (fun _ => 0))), (b43, .inl (cI, 1280, .inl (fun _ => 0))), (b44, .inl (cI, 256, .inl (fun _ => 0))), (b45, .inl (cI, 201, .inl (fun _ => 0))), (b46, .inl (cI, 121, .inl (fun _ => 0))), (b47, .inl (cI, 121, .inl (fun _ => 0))), (b48, .inl (cI, 420, .inl (fun _ => 0)))]) hP hD [33] [0, 1, 2, 3, 4, 5, 6, 7, 8, 9, 10, 11, 12, 13, 14, 15, 16, 17, 18, 19, 20, 21, 22, 23, 24, 25, 26, 27, 28, 29, 30, 31, 32] rfl rfl (by decide) (by decide) hk1 hFc hP1 hD1
  generalize H1 = H at hP hS ⊢
  have hP : va_P D classes [(b0, .inr (9, [.ref b1, .ref b3, .ref b6, .ref b11, .ref b13, .ref b15, .ref b17, .ref b20, .ref b23, .ref b32, .int 0])), (b1, .inr (2, [.ref b2])), (b2, .inl (cI, 4, .inl (upd (upd (upd (upd (fun _ => 0) 0 10) 1 0) 2 0) 3 1))), (b3, .inr (1, [.ref b4, .ref b5, .int 0, .int 0, .int 0, .int (-1)])), (b4, .inl (cI, 50, .inl (fun _ => 0))), (b5, .inl (cI, 8, .inl (fun _ => 0))), (b6, .inr (7, [.ref b1, .ref b3, .ref b7, .ref b8, .ref b9, .ref b10, .int 0, .int 0, .int 0, .int 0, .int 0, .int 0])), (b7, .inl (cI, 256, .inl (fun _ => 0))), (b8, .inl (cI, 256, .inl (fun _ => 0))), (b9, .inl (cI, 256, .inl (fun _ => 0))), (b10, .inl (cI, 256, .inl (fun _ => 0))), (b11, .inr (4, [.ref b1, .ref b3, .ref b12])), (b12, .inl (cI, 8, .inl (fun _ => 0))), (b13, .inr (5, [.ref b1, .ref b14, .int 0])), (b14, .inl (cI, 201, .inl (fun _ => 0))), (b15, .inr (0, [.ref b1, .ref b16, .int 0, .int (-1)])), (b16, .inl (cI, 4, .inl (fun _ => 0))), (b17, .inr (3, [.ref b1, .ref b18, .ref b19])), (b18, .inl (cI, 121, .inl (fun _ => 0))), (b19, .inl (cI, 121, .inl (fun _ => 0))), (b20, .inr (8, [.ref b1, .ref b21, .ref b22])), (b21, .inl (cI, 209, .inl (fun _ => 0))), (b22, .inl (cI, 209, .inl (fun _ => 0))), (b23, .inl (cS, 4, .inr (.inr (.inr (.inr (va_up (va_up (va_up (va_up (fun _ => none) 0 (some b24)) 1 (some b26)) 2 (some b28)) 3 (some b30))))))), (b24, .inr (6, [.ref b25, .int (-1), .int 0])), (b25, .inl (cI, 60, .inl (fun _ => 0))), (b26, .inr (6, [.ref b27, .int (-1), .int 0])), (b27, .inl (cI, 60, .inl (fun _ => 0))), (b28, .inr (6, [.ref b29, .int (-1), .int 0])), (b29, .inl (cI, 60, .inl (fun _ => 0))), (b30, .inr (6, [.ref b31, .int (-1), .int 0])), (b31, .inl (cI, 60, .inl (fun _ => 0))), (b32, .inl (cI, 31, .inl (fun _ => 0))), (b33, .inr (10, [.ref b34, .ref b35, .ref b36, .ref b37, .int 0, .ref b38, .int 0, .int 0, .int 0, .ref b39, .int 0, .ref b40, .ref b41, .ref b42, .ref b43, .ref b44, .ref b45, .ref b46, .ref b47, .ref b48])), (b34, .inl (cI, 4, .inl (upd (upd (upd (upd (fun _ => 0) 0 (-1)) 1 (-1)) 2 (-1)) 3 (-1)))), (b35, .inl (cI, 4, .inl (fun _ => 0))), (b36, .inl (cI, 240, .inl (fun _ => 0))), (b37, .inl (cI, 60, .inl (fun _ => 0))), (b38, .inl (cI, 50, .inl (fun _ => 0))), (b39, .inl (cI, 8, .inl (fun _ => 0))), (b40, .inl (cI, 8, .inl (fun _ => 0))), (b41, .inl (cI, 4, .inl (upd (upd (fun _ => 0) 0 10) 3 1))), (b42, .inl (cI, 1280, .inl (fun _ => 0))), (b43, .inl (cI, 1280, .inl (fun _ => 0))), (b44, .inl (cI, 256, .inl (fun _ => 0))), (b45, .inl (cI, 201, .inl (fun _ => 0))), (b46, .inl (cI, 121, .inl (fun _ => 0))), (b47, .inl (cI, 121, .inl (fun _ => 0))), (b48, .inl (cI, 420, .inl (fun _ => 0)))] H := hP
  have hD : va_D (fun q : Nat => s.heap.size ≤ q) [(b0, .inr (9, [.ref b1, .ref b3, .ref b6, .ref b11, .ref b13, .ref b15, .ref b17, .ref b20, .ref b23, .ref b32, .int 0])), (b1, .inr (2, [.ref b2])), (b2, .inl (cI, 4, .inl (upd (upd (upd (upd (fun _ => 0) 0 10) 1 0) 2 0) 3 1))), (b3, .inr (1, [.ref b4, .ref b5, .int 0, .int 0, .int 0, .int (-1)])), (b4, .inl (cI, 50, .inl (fun _ => 0))), (b5, .inl (cI, 8, .inl (fun _ => 0))), (b6, .inr (7, [.ref b1, .ref b3, .ref b7, .ref b8, .ref b9, .ref b10, .int 0, .int 0, .int 0, .int 0, .int 0, .int 0])), (b7, .inl (cI, 256, .inl (fun _ => 0))), (b8, .inl (cI, 256, .inl (fun _ => 0))), (b9, .inl (cI, 256, .inl (fun _ => 0))), (b10, .inl (cI, 256, .inl (fun _ => 0))), (b11, .inr (4, [.ref b1, .ref b3, .ref b12])), (b12, .inl (cI, 8, .inl (fun _ => 0))), (b13, .inr (5, [.ref b1, .ref b14, .int 0])), (b14, .inl (cI, 201, .inl (fun _ => 0))), (b15, .inr (0, [.ref b1, .ref b16, .int 0, .int (-1)])), (b16, .inl (cI, 4, .inl (fun _ => 0))), (b17, .inr (3, [.ref b1, .ref b18, .ref b19])), (b18, .inl (cI, 121, .inl (fun _ => 0))), (b19, .inl (cI, 121, .inl (fun _ => 0))), (b20, .inr (8, [.ref b1, .ref b21, .ref b22])), (b21, .inl (cI, 209, .inl (fun _ => 0))), (b22, .inl (cI, 209, .inl (fun _ => 0))), (b23, .inl (cS, 4, .inr (.inr (.inr (.inr (va_up (va_up (va_up (va_up (fun _ => none) 0 (some b24)) 1 (some b26)) 2 (some b28)) 3 (some b30))))))), (b24, .inr (6, [.ref b25, .int (-1), .int 0])), (b25, .inl (cI, 60, .inl (fun _ => 0))), (b26, .inr (6, [.ref b27, .int (-1), .int 0])), (b27, .inl (cI, 60, .inl (fun _ => 0))), (b28, .inr (6, [.ref b29, .int (-1), .int 0])), (b29, .inl (cI, 60, .inl (fun _ => 0))), (b30, .inr (6, [.ref b31, .int (-1), .int 0])), (b31, .inl (cI, 60, .inl (fun _ => 0))), (b32, .inl (cI, 31, .inl (fun _ => 0))), (b33, .inr (10, [.ref b34, .ref b35, .ref b36, .ref b37, .int 0, .ref b38, .int 0, .int 0, .int 0, .ref b39, .int 0, .ref b40, .ref b41, .ref b42, .ref b43, .ref b44, .ref b45, .ref b46, .ref b47, .ref b48])), (b34, .inl (cI, 4, .inl (upd (upd (upd (upd (fun _ => 0) 0 (-1)) 1 (-1)) 2 (-1)) 3 (-1)))), (b35, .inl (cI, 4, .inl (fun _ => 0))), (b36, .inl (cI, 240, .inl (fun _ => 0))), (b37, .inl (cI, 60, .inl (fun _ => 0))), (b38, .inl (cI, 50, .inl (fun _ => 0))), (b39, .inl (cI, 8, .inl (fun _ => 0))), (b40, .inl (cI, 8, .inl (fun _ => 0))), (b41, .inl (cI, 4, .inl (upd (upd (fun _ => 0) 0 10) 3 1))), (b42, .inl (cI, 1280, .inl (fun _ => 0))), (b43, .inl (cI, 1280, .inl (fun _ => 0))), (b44, .inl (cI, 256, .inl (fun _ => 0))), (b45, .inl (cI, 201, .inl (fun _ => 0))), (b46, .inl (cI, 121, .inl (fun _ => 0))), (b47, .inl (cI, 121, .inl (fun _ => 0))), (b48, .inl (cI, 420, .inl (fun _ => 0)))] := hD
  refine W.widen (k := 49) (n := 6369) (Nat.le_of_ble_eq_true rfl) (Nat.le_of_ble_eq_true rfl) ?_
  refine lv_astore_n (lv' := [(2, .ref b33), (1, .ref b0), (0, .ref b)]) hx hb dl_15 rfl hl (by decide) rfl (fun ls hl => ?_)
  rw [sh4 b0 b1 b2 b3 b4 b5 b6 b7 b8 b9 b10 b11 b12 b13 b14 b15 b16 b17 b18 b19 b20 b21 b22 b23 b24 b25 b26 b27 b28 b29 b30 b31 b32 b33 b34 b35 b36 b37 b38 b39 b40 b41 b42 b43 b44 b45 b46 b47 b48 t49 t50 t51 b] at hP hD
  rw [← ws0 cI cS b0 b1 b2 b3 b4 b5 b6 b7 b8 b9 b10 b11 b12 b13 b14 b15 b16 b17 b18 b19 b20 b21 b22 b23 b24 b25 b26 b27 b28 b29 b30 b31 b32 b33 b34 b35 b36 b37 b38 b39 b40 b41 b42 b43 b44 b45 b46 b47 b48 t49 t50 t51 b] at hP hD
  have hSt : pm_St (ad52 [b0, b1, b2, b3, b4, b5, b6, b7, b8, b9, b10, b11, b12, b13, b14, b15, b16, b17, b18, b19, b20, b21, b22, b23, b24, b25, b26, b27, b28, b29, b30, b31, b32, b33, b34, b35, b36, b37, b38, b39, b40, b41, b42, b43, b44, b45, b46, b47, b48, t49, t50, t51, b]) (ro52 L xs) (fun q : Nat => s.heap.size ≤ q) s := by
    refine ⟨fun t N f hlay hro => ?_, fun q hq => ?_, fun w hw => ?_⟩
    · unfold ro52 at hro
      by_cases h49 : t = 49
      · subst h49
        obtain ⟨rfl, rfl⟩ := Prod.mk.inj (Option.some.inj hro)
        exact T49
      rw [if_neg h49] at hro
      by_cases h50 : t = 50
      · subst h50
        obtain ⟨rfl, rfl⟩ := Prod.mk.inj (Option.some.inj hro)
        exact T50
      rw [if_neg h50] at hro
      by_cases h51 : t = 51
      · subst h51
        obtain ⟨rfl, rfl⟩ := Prod.mk.inj (Option.some.inj hro)
        exact T51
      rw [if_neg h51] at hro
      by_cases h52 : t = 52
      · subst h52
        obtain ⟨rfl, rfl⟩ := Prod.mk.inj (Option.some.inj hro)
        obtain ⟨scr, x1, x2, x3, x4, x5⟩ := hX
        exact ⟨scr, x1, x2, x3, Nat.le_of_eq x4.symm, by rw [x4] <;> rfl, x5, hbA⟩
      rw [if_neg h52] at hro
      cases hro
    · rcases List.mem_cons.mp hq with e | hq
      · subst e; exact Z49
      rcases List.mem_cons.mp hq with e | hq
      · subst e; exact Z50
      rcases List.mem_cons.mp hq with e | hq
      · subst e; exact Z51
      exact absurd hq List.not_mem_nil
    · rcases List.mem_cons.mp hw with e | hw
      · subst e; exact hNw
      exact absurd hw List.not_mem_nil
  obtain ⟨n, mem', hrun⟩ := law_pure (ro := ro52 L xs) rfl rfl rfl rfl hL
  have hgo := pm_snd pm_ok_holds (ro52 L xs) n m_L_law 16 _ [] mem0 _ mem' hrun p l e room_1 s m #[Value.ref b] below meth c 49 6369 (lw_Z below #[Value.ref b] s) D (ad52 [b0, b1, b2, b3, b4, b5, b6, b7, b8, b9, b10, b11, b12, b13, b14, b15, b16, b17, b18, b19, b20, b21, b22, b23, b24, b25, b26, b27, b28, b29, b30, b31, b32, b33, b34, b35, b36, b37, b38, b39, b40, b41, b42, b43, b44, b45, b46, b47, b48, t49, t50, t51, b]) cI cS (fun q : Nat => s.heap.size ≤ q) pm_S_law rfl ⟨hx, hb, hml, hown, hts, hK, hA, hSt, by decide, by decide⟩ (by decide) (by decide) (fun pc' la' H' locs' _ _ hS' hE => by
    refine va_forget (fun q hq => hS'.2.2 q hq) ?_
    rcases hE with ⟨x, hv, hd, -⟩ | ⟨x, hv, -⟩ | ⟨hv, -⟩
    · exact lw_ret hx hb hr hlocks hd
    · cases hv
    · cases hv)
  exact hgo H _ ls hP hD hS ⟨rfl, lv_sub hl [2, 1, 0] rfl⟩
