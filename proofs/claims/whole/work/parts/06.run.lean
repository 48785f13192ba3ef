/-! THE PURE MACHINE IS THE MACHINE: calls, returns, runs. -/
theorem pm_ent_s {v : Value} (hv : pm_isL (some v) = false) (n : Nat) (vs : List Value) : pm_ent (n + 1) (v :: vs) = v :: pm_ent n vs := by
  cases n <;> simp [pm_ent, hv]
theorem pm_ent_d {v : Value} (hv : pm_isL (some v) = true) (k : Nat) (vs : List Value) : pm_ent (k + 2) (v :: vs) = v :: .null :: pm_ent k vs := by
  simp [pm_ent, hv]
theorem pm_ent_1 {v : Value} (hv : pm_isL (some v) = true) (vs : List Value) : pm_ent 1 (v :: vs) = [] := by
  simp [pm_ent, hv]
theorem pm_ent_len : ∀ (n : Nat) (As : List Value), pm_wid As ≤ n → (pm_ent n As).length = n := by
  intro n
  induction n using Nat.strongRecOn with
  | ind n ih =>
    intro As h
    match n, As, ih, h with
    | 0, _, _, _ => simp [pm_ent]
    | n + 1, [], ih, _ => simp [pm_ent, ih n (by omega) [] (by simp [pm_wid])]
    | n + 1, v :: vs, ih, h =>
      simp only [pm_wid] at h
      cases hv : pm_isL (some v) with
      | false =>
        rw [hv] at h
        simp only [cond_false] at h
        rw [pm_ent_s hv, List.length_cons, ih n (by omega) vs (by omega)]
      | true =>
        rw [hv] at h
        simp only [cond_true] at h
        match n, ih, h with
        | 0, _, h => omega
        | k + 1, ih, h => rw [pm_ent_d hv, List.length_cons, List.length_cons, ih k (by omega) vs (by omega)]
theorem pm_ent_nil {adr : Nat → Nat} {q : Nat × Value} : ∀ (n i : Nat), ¬ q ∈ pm_lv adr i (pm_ent n []) := by
  intro n
  induction n with
  | zero => intro i h; simp [pm_ent, pm_lv] at h
  | succ n ih => intro i h; simp only [pm_ent, pm_lv, decide_true, cond_true] at h; exact ih _ h
theorem pm_ent_lv {adr : Nat → Nat} {q : Nat × Value} : ∀ (n : Nat) (As : List Value) (i : Nat), q ∈ pm_lv adr i (pm_ent n As) → q ∈ lv_args i (As.map (pm_v adr)) := by
  intro n
  induction n using Nat.strongRecOn with
  | ind n ih =>
    intro As i h
    match n, As, ih, h with
    | 0, _, _, h => simp [pm_ent, pm_lv] at h
    | n + 1, [], ih, h => exact absurd h (pm_ent_nil _ _)
    | n + 1, v :: vs, ih, h =>
      simp only [List.map_cons, lv_args, pm_v_cat]
      cases hv : pm_isL (some v) with
      | false =>
        have hc : ¬ v.category = 2 := fun z => by rw [(pm_isL_cat v).mpr z] at hv; cases hv
        rw [if_neg hc]
        rw [pm_ent_s hv] at h
        simp only [pm_lv] at h
        cases hn : decide (v = Value.null) with
        | true =>
          rw [hn] at h
          exact List.mem_cons_of_mem _ (ih n (by omega) vs (i + 1) h)
        | false =>
          rw [hn] at h
          rcases List.mem_cons.mp h with h | h
          · rw [h]; exact List.mem_cons_self
          · exact List.mem_cons_of_mem _ (ih n (by omega) vs (i + 1) h)
      | true =>
        have hc : v.category = 2 := (pm_isL_cat v).mp hv
        rw [if_pos hc]
        match n, ih, h with
        | 0, _, h => rw [pm_ent_1 hv] at h; simp [pm_lv] at h
        | k + 1, ih, h =>
          have hn : decide (v = Value.null) = false := by
            apply decide_eq_false
            intro z
            rw [z] at hv
            cases hv
          rw [pm_ent_d hv] at h
          simp only [pm_lv, hn, cond_false, decide_true, cond_true] at h
          rcases List.mem_cons.mp h with h | h
          · rw [h]; exact List.mem_cons_self
          · exact List.mem_cons_of_mem _ (ih k (by omega) vs (i + 2) h)
theorem pm_sl_len (adr : Nat → Nat) : ∀ As : List Value, (lg_sl (As.map (pm_v adr))).length = pm_wid As := by
  intro As
  induction As with
  | nil => rfl
  | cons v vs ih =>
    simp only [lg_sl, List.map_cons, List.flatMap_cons, List.length_append, pm_wid, pm_v_cat] at ih ⊢
    rw [ih]
    cases hv : pm_isL (some v) with
    | false =>
      have hc : ¬ v.category = 2 := fun z => by rw [(pm_isL_cat v).mpr z] at hv; cases hv
      rw [if_neg hc]; rfl
    | true => rw [if_pos ((pm_isL_cat v).mp hv)]; rfl
theorem pm_St.go {adr : Nat → Nat} {ro : pm_RO} {A A' : Nat → Prop} {s U : State} {H : Heap} {locs : List Loc} (h : pm_St adr ro A s) (hS : va_S A s.heap H locs) (hU : U.heap = H) (hW : s.WarmedH U.vm) (hA : ∀ q, A' q → A q) : pm_St adr ro A' U := by
  obtain ⟨h1, h2, h3⟩ := h
  refine ⟨fun t N f hl hr => ?_, fun q hq => ?_, fun w hw => ?_⟩
  · rw [hU]
    exact (((h1 t N f hl hr).kept hS.2.1).narrow hA).moved hW.alike
  · rw [hU]
    exact (((h2 q hq).kept hS.2.1).narrow hA).moved hW.alike
  · have h4 := h3 w hw
    simp only [pm_nests, List.mem_cons, List.not_mem_nil, or_false] at hw
    subst hw
    exact va_Nw.warmM hW h4
theorem pm_St.calling {adr : Nat → Nat} {ro : pm_RO} {A : Nat → Prop} {U : State} (h : pm_St adr ro A U) (g : JFrame) (mk : MethodId) (a : Array Value) : pm_St adr ro A (U.calling g mk a) := by
  obtain ⟨h1, h2, h3⟩ := h
  refine ⟨fun t N f hl hr => (h1 t N f hl hr).moved (u := U) (U := U.calling g mk a) (Vm.Alike.refl U.vm), fun q hq => (h2 q hq).moved (u := U) (U := U.calling g mk a) (Vm.Alike.refl U.vm), fun w hw => ?_⟩
  have h4 := h3 w hw
  simp only [pm_nests, List.mem_cons, List.not_mem_nil, or_false] at hw
  subst hw
  exact va_Nw.same (u := U) (U := U.calling g mk a) rfl rfl h4
section PMR
variable {p : Program} {l : Launch} {e : Env} {R : Room} {s : State} {m : MethodId} {args : Array Value} {below : List Frame} {meth : Method} {c : Code} {cells slots : Nat} {Q : State → Prop} {D : va_G} {adr : Nat → Nat} {cI cS : ClassId} {ro : pm_RO} {A : Nat → Prop} {S : pm_S}
def pm_Qc (D : va_G) (adr : Nat → Nat) (cI cS : ClassId) (A1 : Nat → Prop) (v : Option Value) (mem : pm_M) : Array Value → State → Outcome → State → Prop := fun _ st oc t => oc = .returned (v.map (pm_v adr)) ∧ va_P D classes (pm_ws adr cI cS mem) t.heap ∧ va_D A1 (pm_ws adr cI cS mem) ∧ va_F A1 st t
def pm_Pc (D : va_G) (adr : Nat → Nat) (cI cS : ClassId) (ro : pm_RO) (sz : Nat) (As : List Value) (mem : pm_M) : Array Value → State → Prop := va_Pc (As.map (pm_v adr)) (fun U => U.heap.size = sz ∧ va_P D classes (pm_ws adr cI cS mem) U.heap ∧ va_K D classes (pm_tys cI cS) U ∧ va_D (fun _ => True) (pm_ws adr cI cS mem) ∧ pm_St adr ro (va_A (pm_ws adr cI cS mem) sz) U)
theorem pm_Pc.blind {sz : Nat} {As : List Value} {mem : pm_M} : FrameBlind (pm_Pc D adr cI cS ro sz As mem) := fun a U g mk q => ⟨q.1, q.2.1, q.2.2.1, va_K.moved (u := U) (U := U.calling g mk a) (Vm.Alike.refl U.vm) q.2.2.2.1, q.2.2.2.2.1, q.2.2.2.2.2.calling g mk a⟩
theorem pm_behind {A0 A1 : Nat → Prop} {H0 H : Heap} {locs : List Loc} {pc : Nat} {la : Array Slot} {st0 rest : List Value} {a : Array Value} {v : Option Value} {mem : pm_M} {free : Addr → Prop}
    (hr : va_Run p l e R s m args below meth c H locs cells slots 0 0 (F0 m pc la st0) rest (pm_Qc D adr cI cS A1 v mem a) free) (hS : va_S A0 H0 H locs) (hA : ∀ q, A1 q → A0 q) (hf : ∀ q, free q → A0 q)
    (kk : ∀ (H1 : Heap) (locs1 : List Loc), va_P D classes (pm_ws adr cI cS mem) H1 → va_D A0 (pm_ws adr cI cS mem) → va_S A0 H0 H1 locs1 → W p l e R s m args below meth c H1 locs1 cells slots Q (F0 m (pc + 3) la ((v.map (pm_v adr)).toList ++ rest))) : W p l e R s m args below meth c H locs cells slots Q (F0 m pc la st0) := by
  intro T hT X
  obtain ⟨v', st₀, t, T', L, h0, X', hL, e1, e2, ⟨hv, hP1, hD1, hz, hk⟩, st⟩ := hr T hT X
  cases hv
  rw [h0] at hz hk
  obtain ⟨t2, a1, b1⟩ := kk T'.heap (locs ++ L) (by rw [e1]; exact hP1) (hD1.weaken (fun _ q _ h => hA q.1 h))
    ⟨Nat.le_trans hS.1 (by rw [e1]; exact hz), fun q h1 h2 => by rw [e1, hk q (Nat.lt_of_lt_of_le h1 hS.1) (fun z => h2 (hA q z))]; exact hS.2.1 q h1 h2, fun q hq => by
      rcases List.mem_append.mp hq with h | h
      · exact hS.2.2 q h
      · exact hf _ (hL q h)⟩ T' rfl X'
  exact ⟨t2, st t2 a1, b1⟩
/-- where a method returns -/
def pm_End (S : pm_S) (pc : Nat) (v : Option Value) : Prop :=
  (∃ x : Int32, v = some (.int x) ∧ decode S.2.1 pc = .ok (.ireturn, 1) ∧ (S.2.2.2.1 = some .int ∨ (S.2.2.2.1 = some .boolean ∧ (x = 0 ∨ x = 1)))) ∨ (∃ x : Int64, v = some (.long x) ∧ decode S.2.1 pc = .ok (.lreturn, 1) ∧ S.2.2.2.1 = some .long) ∨ (v = none ∧ decode S.2.1 pc = .ok (.return_, 1) ∧ S.2.2.2.1 = none)
/-- what a run of n steps says of the machine -/
def pm_Snd (ro : pm_RO) (n : Nat) : Prop := ∀ (y pc : Nat) (ls st : List Value) (mem : pm_M) (v : Option Value) (mem' : pm_M), pm_run ro n y pc ls st mem = some (v, mem') →
  ∀ (p : Program) (l : Launch) (e : Env) (R : Room) (s : State) (m : MethodId) (args : Array Value) (below : List Frame) (meth : Method) (c : Code) (cells slots : Nat) (Q : State → Prop) (D : va_G) (adr : Nat → Nat) (cI cS : ClassId) (A : Nat → Prop) (S : pm_S), pm_sig[y]? = some S → pm_Cx p R s m args c D adr cI cS ro A S → cells ≤ R.cells → slots ≤ R.slots →
  (∀ (pc' : Nat) (la' : Array Slot) (H' : Heap) (locs' : List Loc), va_P D classes (pm_ws adr cI cS mem') H' → va_D A (pm_ws adr cI cS mem') → va_S A s.heap H' locs' → pm_End S pc' v → W p l e R s m args below meth c H' locs' cells slots Q (F0 m pc' la' (v.map (pm_v adr)).toList)) →
  pm_Go p l e R s m args below meth c cells slots Q D adr cI cS A S.2.2.1 pc ls st mem
theorem pm_good {ws : List Cond} (h : ∀ w ∈ ws, w ∈ pm_tb) : GoodIn pm_tb ws := fun w hw => ⟨h w hw, good_of_word (List.mem_filter.mp (h w hw)).2⟩
set_option maxHeartbeats 1000000 in
/-- a run of a whole method is a contract of it -/
theorem pm_met {n y : Nat} (ih : pm_Snd ro n) {J : pm_S} (hsig : pm_sig[y]? = some J) (hok : pm_oks J = true) {As : List Value} (hw : pm_wid As ≤ J.2.2.1) {mem mem' : pm_M} {v : Option Value} (hrun : pm_run ro n y 0 (pm_ent J.2.2.1 As) [] mem = some (v, mem')) (l : Launch) (D : va_G) (adr : Nat → Nat) (cI cS : ClassId) (sz : Nat) :
    Met l J.1 (.code J.1 J.2.1 J.2.2.1 J.2.2.2.1 :: pm_tb) ({ frames := J.2.2.2.2.1, cells := 0, slots := 0, locals := J.2.2.2.2.2.1 }) (pm_Pc D adr cI cS ro sz As mem) (pm_Qc D adr cI cS (va_A (pm_ws adr cI cS mem) sz) v mem') 0 0 (va_A (pm_ws adr cI cS mem) sz) := by
  unfold pm_oks at hok
  simp only [Bool.and_eq_true, decide_eq_true_eq] at hok
  obtain ⟨⟨⟨-, hpl⟩, -⟩, -⟩ := hok
  refine Met.ofW (cc := J.2.1) (maxL := J.2.2.1) (ret := J.2.2.2.1) hpl rfl ?_
  intro p e s m args below meth c s₁ B hml hv
  obtain ⟨rfl, hsz, hP, hK, hD0, hSt⟩ := hv
  have hx := B.exec
  have hb := B.bytes
  have hr := B.returns
  have hts := atoms_spec (ws := .code J.1 J.2.1 J.2.2.1 J.2.2.2.1 :: pm_tb) B.pre
  have hown : s.vm.findClass J.1.cls = some m.cls := findClass_of_methodNamed B.named
  have hlocks := B.notSynchronized
  subst hsz
  have hD := hD0.self (sz := s.heap.size)
  have hl := lv_entry (As.map (pm_v adr)) (n := J.2.2.1) (by rw [pm_sl_len]; exact hw)
  rw [lg_entry_eq]
  refine ih y 0 (pm_ent J.2.2.1 As) [] mem v mem' hrun p l e _ s m _ below meth c 0 0 _ D adr cI cS (va_A (pm_ws adr cI cS mem) s.heap.size) J hsig ⟨hx, hb, hml, hown, fun w h => hts w (List.mem_cons_of_mem _ h), hK, fun q h => Or.inr h, hSt, Nat.le_refl _, Nat.le_refl _⟩ (Nat.zero_le _) (Nat.zero_le _) ?_ s.heap [] _ hP hD va_S.rf ⟨pm_ent_len _ _ hw, hl.1, hl.2.1, fun q hq => hl.2.2 q (pm_ent_lv _ _ _ hq)⟩
  intro pc' la' H' locs' hP' hD' hS' hE
  rcases hE with ⟨x, rfl, hd, hret | ⟨hret, hx01⟩⟩ | ⟨x, rfl, hd, hret⟩ | ⟨rfl, hd, hret⟩
  · exact W.iret (v := x) hx hb (by rw [hr]; exact hret) (fun t ht hW => ⟨rfl, by rw [ht]; exact hP', hD', hS'.F ht⟩) hS'.2.2 hd
  · exact W.zret (v := x) (ty := .boolean) hx hb (by rw [hr]; exact hret) (by rcases hx01 with rfl | rfl <;> decide +kernel) (fun t ht hW => ⟨rfl, by rw [ht]; exact hP', hD', hS'.F ht⟩) hS'.2.2 hd
  · exact W.lret (v := x) hx hb (by rw [hr]; exact hret) (fun t ht hW => ⟨rfl, by rw [ht]; exact hP', hD', hS'.F ht⟩) hS'.2.2 hd
  · exact W.vret hx hb (by rw [hr]; exact hret) (fun t ht hW => ⟨rfl, by rw [ht]; exact hP', hD', hS'.F ht⟩) hS'.2.2 hd
theorem pm_ws_all (adr : Nat → Nat) (cI cS : ClassId) (mem : pm_M) : (List.range pm_lay.length).map (fun i => (pm_ws adr cI cS mem)[i]?) = (pm_ws adr cI cS mem).map some := by
  apply List.ext_getElem?
  intro j
  rw [List.getElem?_map, List.getElem?_map]
  by_cases hj : j < pm_lay.length
  · rw [List.getElem?_range hj]
    have h1 : j < (pm_ws adr cI cS mem).length := by simp only [pm_ws, List.length_mapIdx]; exact hj
    rw [List.getElem?_eq_getElem h1]
    simp [h1]
  · have h1 : (pm_ws adr cI cS mem)[j]? = none := by
      rw [List.getElem?_eq_none_iff]; simp only [pm_ws, List.length_mapIdx]; omega
    rw [h1, List.getElem?_eq_none_iff.mpr (by rw [List.length_range]; omega)]
    rfl
theorem pm_rev_take {st As : List Value} {b : Nat} (h : (st.take b).reverse = As) : st = As.reverse ++ st.drop b := by
  rw [← h, List.reverse_reverse, List.take_append_drop]
set_option maxHeartbeats 2000000 in
/-- a call -/
theorem pm_call_ok {n y' : Nat} (hOK : pm_OK) (ih : pm_Snd ro n) {r : pm_R} {ls st As rest : List Value} {mem mem' : pm_M} {v : Option Value} {J : pm_S} (hcal : pm_cal r st = some (y', J, As, rest)) (hmay : pm_may S J As rest = true) (hrun : pm_run ro n y' 0 (pm_ent J.2.2.1 As) [] mem = some (v, mem'))
    (hok : pm_okr S r = true) (C : pm_Cx p R s m args c D adr cI cS ro A S) (hc : cells ≤ R.cells) (hsl : slots ≤ R.slots)
    (kk : pm_Go p l e R s m args below meth c cells slots Q D adr cI cS A S.2.2.1 (r.1 + 3) ls (v.toList ++ rest) mem') : pm_Go p l e R s m args below meth c cells slots Q D adr cI cS A S.2.2.1 r.1 ls st mem := by
  obtain ⟨pc, ins, a, b, d, pl, w, w2⟩ := r
  obtain ⟨hx, hb, hml, hown, hts, hK, hA, hSt, hfr, hlo⟩ := C
  unfold pm_okr at hok
  simp only [Bool.and_eq_true, decide_eq_true_eq] at hok
  obtain ⟨hd, hlk⟩ := hok
  unfold pm_may at hmay
  simp only [Bool.and_eq_true] at hmay
  obtain ⟨⟨⟨⟨m1, m2⟩, m3⟩, m4⟩, m5⟩ := hmay
  have m1 := Nat.le_of_ble_eq_true m1
  have m2 := Nat.le_of_ble_eq_true m2
  have m3 := Nat.eq_of_beq_eq_true m3
  have m4 := Nat.le_of_ble_eq_true m4
  have m5 := Nat.le_of_ble_eq_true m5
  have hrest : ((rest.map (pm_v adr)).map fun v => v.category).sum ≤ 8 := by
    rw [List.map_map]
    have : ((fun v : Value => v.category) ∘ pm_v adr) = fun v => v.category := funext fun v => pm_v_cat adr v
    rw [this]
    exact m5
  intro H locs la hP hD hS hL
  show W p l e R s m args below meth c H locs cells slots Q (F0 m pc la (st.map (pm_v adr)))
  have hFc := va_free (wc := pm_ws adr cI cS mem) hD hS hA (List.range pm_lay.length) (pm_ws_all adr cI cS mem)
  have hvl : (v.map (pm_v adr)).toList ++ rest.map (pm_v adr) = (v.toList ++ rest).map (pm_v adr) := by cases v <;> simp
  cases ins with
  | invokevirtual i =>
    replace hlk : (match pm_sig[a]? with
      | some J => decide (lw_tbl[pl]? = some (Cond.methodLink S.1.cls i J.1)) && !J.2.2.2.2.2.2.2.1 && decide (J.2.2.2.2.2.2.1 = b) && decide (a ≠ m_L_law) && (match classes[d]? with
        | some q => decide (q.1 = J.1.cls)
        | none => false)
      | none => false) = true := hlk
    replace hcal : (match pm_sig[a]?, (st.take b).reverse with
      | some J, .ref t :: As => match pm_lay[t]? with
        | some (.inr (.inr (ci, _))) => bif Nat.beq ci d then some (a, J, .ref t :: As, st.drop b) else none
        | _ => none
      | _, _ => none) = some (y', J, As, rest) := hcal
    split at hcal
    next J0 t As0 hsig htk =>
      split at hcal
      next ci sl hlay =>
        cases hq : Nat.beq ci d with
        | false => rw [hq] at hcal; cases hcal
        | true =>
          rw [hq] at hcal
          have hq := Nat.eq_of_beq_eq_true hq
          subst hq
          cases hcal
          rw [hsig] at hlk
          simp only [Bool.and_eq_true, decide_eq_true_eq, Bool.not_eq_true'] at hlk
          obtain ⟨⟨⟨⟨k1, k2⟩, k3⟩, k4⟩, k5⟩ := hlk
          have hoks := hOK.2 hsig k4
          have hM := pm_met ih hsig hoks m4 hrun l D adr cI cS H.size
          unfold pm_oks at hoks
          rw [k2] at hoks
          simp only [Bool.and_eq_true, decide_eq_true_eq, cond_false, Bool.false_or] at hoks
          obtain ⟨⟨⟨⟨⟨⟨⟨o1, o2⟩, o3, o4⟩, o5⟩, o6⟩, o7⟩, o8⟩, o9⟩ := hoks
          cases hcl : classes[ci]? with
          | none => rw [hcl] at k5; cases k5
          | some q =>
            rw [hcl] at k5
            have k5 : q.1 = J.1.cls := of_decide_eq_true k5
            have hst := pm_rev_take htk
            have hlen : As0.length = J.2.2.2.2.2.2.1 - 1 := by
              have : (Value.ref t :: As0).length = J.2.2.2.2.2.2.1 := m3
              simp only [List.length_cons] at this
              omega
            have hrecv := va_recv hK hP hcl (pm_ws_get (adr := adr) (cI := cI) (cS := cS) (mem := mem) hlay)
            rw [k5] at hrecv
            refine pm_behind (va_runV (As := As0.map (pm_v adr)) (rest := (st.drop b).map (pm_v adr)) (b := adr t) (C := J.1.cls) ⟨hx, hb, hml, hown, hts⟩ hM
              (cwV (J.2.2.2.2.2.2.1 - 1) hts (pm_good (fun w hw => by
                simp only [wsV, List.mem_append, List.mem_cons, List.not_mem_nil, or_false] at hw
                rcases hw with (rfl | rfl | rfl | rfl) | rfl | hw
                · exact pm_mem rfl k1
                · exact pm_mem rfl o3
                · exact pm_mem rfl o4
                · exact pm_mem rfl o2
                · exact pm_mem rfl o1
                · exact hw)) rfl rfl rfl ⟨rfl, o5, o6, o8⟩ ⟨Nat.le_trans m1 hfr, Nat.le_trans m2 hlo⟩)
              ⟨pm_Pc.blind, hrecv, fun U hU hW => ⟨rfl, by rw [hU], by rw [hU]; exact hP, va_K.moved hW.alike hK, hD.weaken (fun _ _ _ _ => trivial), hSt.go hS hU hW hFc⟩⟩
              rfl (by rw [List.length_map]; exact hlen) (hL.size.trans rfl) ?_ (lv_room hrest) hd ⟨hc, hsl⟩) hS hFc hFc (fun H1 locs1 hP1 hD1 hS1 => ?_)
            · show st.map (pm_v adr) = _
              conv => lhs; rw [hst]
              simp [pm_v]
            · rw [hvl]
              exact kk _ _ _ hP1 hD1 hS1 hL
      next => cases hcal
    next => cases hcal
  | invokestatic i =>
    replace hlk : (bif decide (2 ≤ d) then pm_oksp S.1.cls i d pl else (match pm_sig[a]? with
      | some J => J.2.2.2.2.2.2.2.1 && decide (J.2.2.2.2.2.2.1 = b) && decide (a ≠ m_L_law) && (decide (lw_tbl[pl]? = some (Cond.methodLink S.1.cls i J.1)) || decide (Cond.methodLinkNest S.1.cls i J.1 "ReadFromRight" ∈ pm_nests))
      | none => false)) = true := hlk
    replace hcal : (match pm_sig[a]? with
      | some J => bif !(Nat.ble 2 d) then some (a, J, (st.take b).reverse, st.drop b) else none
      | none => none) = some (y', J, As, rest) := hcal
    split at hcal
    next J0 hsig =>
      cases hq : Nat.ble 2 d with
      | true => rw [hq] at hcal; cases hcal
      | false =>
        rw [hq] at hcal
        cases hcal
        have hd2 : decide (2 ≤ d) = false := decide_eq_false (fun z => by rw [Nat.ble_eq_true_of_le z] at hq; cases hq)
        rw [hd2, hsig] at hlk
        simp only [cond_false, Bool.and_eq_true, Bool.or_eq_true, decide_eq_true_eq] at hlk
        obtain ⟨⟨⟨k2, k3⟩, k4⟩, k1⟩ := hlk
        have hoks := hOK.2 hsig k4
        have hM := pm_met ih hsig hoks m4 hrun l D adr cI cS H.size
        unfold pm_oks at hoks
        rw [k2] at hoks
        simp only [Bool.and_eq_true, decide_eq_true_eq, cond_true, Bool.true_or, and_true] at hoks
        obtain ⟨⟨⟨⟨⟨⟨o1, o2⟩, o3⟩, o5⟩, o6⟩, o7⟩, o8⟩ := hoks
        have hst := pm_rev_take (st := st) (b := b) rfl
        have hpre : PreS s H (pm_Pc D adr cI cS ro H.size (st.take b).reverse mem) ((st.take b).reverse.map (pm_v adr)) := ⟨pm_Pc.blind, fun U hU hW => ⟨rfl, by rw [hU], by rw [hU]; exact hP, va_K.moved hW.alike hK, hD.weaken (fun _ _ _ _ => trivial), hSt.go hS hU hW hFc⟩⟩
        have hstk : st.map (pm_v adr) = (((st.take b).reverse.map (pm_v adr))).reverse ++ (st.drop b).map (pm_v adr) := by
          conv => lhs; rw [hst]
          simp
        rcases k1 with k1 | k1
        · refine pm_behind (va_runS (As := (st.take b).reverse.map (pm_v adr)) (rest := (st.drop b).map (pm_v adr)) ⟨hx, hb, hml, hown, hts⟩ hM
            (va_cwS (J.2.2.2.2.2.2.1) hts (pm_good (fun w hw => by
              simp only [va_wsS, List.mem_append, List.mem_cons, List.not_mem_nil, or_false] at hw
              rcases hw with (rfl | rfl | rfl) | rfl | hw
              · exact pm_mem rfl k1
              · exact pm_mem rfl o3
              · exact pm_mem rfl o2
              · exact pm_mem rfl o1
              · exact hw)) rfl rfl rfl ⟨o5, o6, o8⟩ ⟨Nat.le_trans m1 hfr, Nat.le_trans m2 hlo⟩)
            hpre rfl (by rw [List.length_map]; exact m3) (hL.size.trans rfl) hstk (lv_room hrest) hd ⟨hc, hsl⟩) hS hFc hFc (fun H1 locs1 hP1 hD1 hS1 => ?_)
          rw [hvl]
          exact kk _ _ _ hP1 hD1 hS1 hL
        · refine pm_behind (va_runSN (As := (st.take b).reverse.map (pm_v adr)) (rest := (st.drop b).map (pm_v adr)) (host := "ReadFromRight") ⟨hx, hb, hml, hown, hts⟩ hM
            ⟨va_cnB (J.2.2.2.2.2.2.1) hts (pm_good (fun w hw => by
              rcases List.mem_cons.mp hw with rfl | hw
              · exact pm_mem rfl o1
              · exact hw)) rfl rfl rfl (hSt.2.2 _ k1) (pm_word hts rfl o2) ⟨o5, o6, o8⟩ ⟨Nat.le_trans m1 hfr, Nat.le_trans m2 hlo⟩, pm_word hts rfl o3, trivial⟩
            hpre rfl (by rw [List.length_map]; exact m3) (hL.size.trans rfl) hstk (lv_room hrest) hd ⟨hc, hsl⟩) hS hFc hFc (fun H1 locs1 hP1 hD1 hS1 => ?_)
          rw [hvl]
          exact kk _ _ _ hP1 hD1 hS1 hL
    next => cases hcal
  | _ => exact nomatch (show (none : Option (Nat × pm_S × List Value × List Value)) = some (y', J, As, rest) from hcal)
set_option maxHeartbeats 1000000 in
/-- System.arraycopy, Math.max, min, abs -/
theorem pm_spc_ok {r : pm_R} {ls st ls' st' : List Value} {mem mem' : pm_M} {pc' : Nat} (hsp : pm_isSp r = true) (hs : pm_spc r.2.2.2.2.1 (r.1 + 3) ls st mem = some (pc', ls', st', mem')) (hf1 : 1 ≤ S.2.2.2.2.1) (hl1 : 26 ≤ S.2.2.2.2.2.1)
    (hok : pm_okr S r = true) (C : pm_Cx p R s m args c D adr cI cS ro A S) (hc : cells ≤ R.cells) (hsl : slots ≤ R.slots)
    (kk : pm_Go p l e R s m args below meth c cells slots Q D adr cI cS A S.2.2.1 pc' ls' st' mem') : pm_Go p l e R s m args below meth c cells slots Q D adr cI cS A S.2.2.1 r.1 ls st mem := by
  obtain ⟨pc, ins, a, b, d, pl, w, w2⟩ := r
  obtain ⟨hx, hb, hml, hown, hts, hK, hA, hSt, hfr, hlo⟩ := C
  unfold pm_okr at hok
  simp only [Bool.and_eq_true, decide_eq_true_eq] at hok
  obtain ⟨hd, hlk⟩ := hok
  have hcat : ∀ rest : List Value, ((rest.map (pm_v adr)).map fun v => v.category).sum = (rest.map fun v => v.category).sum := by
    intro rest
    rw [List.map_map]
    have : ((fun v : Value => v.category) ∘ pm_v adr) = fun v => v.category := funext fun v => pm_v_cat adr v
    rw [this]
  intro H locs la hP hD hS hL
  show W p l e R s m args below meth c H locs cells slots Q (F0 m pc la (st.map (pm_v adr)))
  cases ins with
  | invokestatic i =>
    replace hsp : Nat.ble 2 d = true := hsp
    replace hs : pm_spc d (pc + 3) ls st mem = some (pc', ls', st', mem') := hs
    replace hlk : (bif decide (2 ≤ d) then pm_oksp S.1.cls i d pl else (match pm_sig[a]? with
      | some J => J.2.2.2.2.2.2.2.1 && decide (J.2.2.2.2.2.2.1 = b) && decide (a ≠ m_L_law) && (decide (lw_tbl[pl]? = some (Cond.methodLink S.1.cls i J.1)) || decide (Cond.methodLinkNest S.1.cls i J.1 "ReadFromRight" ∈ pm_nests))
      | none => false)) = true := hlk
    rw [decide_eq_true (Nat.le_of_ble_eq_true hsp), cond_true] at hlk
    match d, hs, hlk with
    | 0, _, hlk => cases hlk
    | 1, _, hlk => cases hlk
    | 2, hs, hlk =>
      have hlk : lw_tbl[pl]? = some (Cond.methodLink S.1.cls i arraycopyName) := of_decide_eq_true hlk
      replace hs : pm_cpy (pc + 3) ls st mem = some (pc', ls', st', mem') := hs
      unfold pm_cpy at hs
      split at hs
      next n dp t1 sp t0 rest _ =>
        split at hs
        next n0 n1 h0 h1 =>
          cases hq : (!(decide (sp < 0)) && !(decide (dp < 0)) && !(decide (n < 0)) && decide (sp.toNatClampNeg + n.toNatClampNeg ≤ n0) && decide (dp.toNatClampNeg + n.toNatClampNeg ≤ n1) && decide ((rest.map fun v => v.category).sum ≤ 8)) with
          | false => rw [hq] at hs; cases hs
          | true =>
            rw [hq] at hs
            simp only [cond_true, Option.some.injEq, Prod.mk.injEq] at hs
            obtain ⟨rfl, rfl, rfl, rfl⟩ := hs
            simp only [Bool.and_eq_true, Bool.not_eq_true', decide_eq_false_iff_not, decide_eq_true_eq] at hq
            obtain ⟨⟨⟨⟨⟨q1, q2⟩, q3⟩, q4⟩, q5⟩, q6⟩ := hq
            have e9 := pm_ws_set (adr := adr) (cI := cI) (cS := cS) (mem := mem) (f := va_cpy (mem t0) (mem t1) sp.toNatClampNeg dp.toNatClampNeg n.toNatClampNeg) h1
            have c0 : (pm_ws adr cI cS mem)[t0]? = some (adr t0, .inl (cI, n0, .inl (mem t0))) := pm_ws_get h0
            have c1 : (pm_ws adr cI cS mem)[t1]? = some (adr t1, .inl (cI, n1, .inl (mem t1))) := pm_ws_get h1
            exact va_copyi (ty := .int) (ls := la) hx hb (hml.trans hL.size.symm) hown (pm_word hts rfl hlk) (pm_word hts rfl pm_w_cn) (pm_word hts rfl pm_w_cs) (pm_word hts rfl pm_w_ci) hK hP hD hS t0 t1 0 0 c0 c1 rfl rfl rfl q1 q2 q3 q4 q5 (fun _ _ => rfl) (Nat.le_trans hf1 hfr)
              (by rw [hcat]; have : nativeFrameWords "java/lang/System" "arraycopy" 5 = 7 := by decide +kernel
                  rw [this]; omega) hd (fun H1 locs1 hP1 hD1 hS1 => kk _ _ _ (by rw [← e9]; exact hP1) (by rw [← e9]; exact hD1) hS1 hL)
        next => cases hs
      next => cases hs
    | 3, hs, hlk =>
      have hlk : lw_tbl[pl]? = some (Cond.methodLink S.1.cls i Lib.Math.max.name) := of_decide_eq_true hlk
      replace hs : pm_m2 (fun x y => if x < y then y else x) (pc + 3) ls st mem = some (pc', ls', st', mem') := hs
      unfold pm_m2 at hs
      split at hs
      next y x rest _ =>
        cases hq : decide ((rest.map fun v => v.category).sum ≤ 8) with
        | false => rw [hq] at hs; cases hs
        | true =>
          rw [hq] at hs
          simp only [cond_true, Option.some.injEq, Prod.mk.injEq] at hs
          obtain ⟨rfl, rfl, rfl, rfl⟩ := hs
          have hq := of_decide_eq_true hq
          exact va_mmax (ls := la) hx hb (hml.trans hL.size.symm) hown (pm_word hts rfl hlk) (pm_word hts rfl pm_w_xs) (pm_word hts rfl pm_w_mi) (pm_word hts rfl pm_w_xc) (Nat.le_trans hf1 hfr) (by rw [hcat]; omega) hc hsl hd (kk _ _ _ hP hD hS hL)
      next => cases hs
    | 4, hs, hlk =>
      have hlk : lw_tbl[pl]? = some (Cond.methodLink S.1.cls i Lib.Math.min.name) := of_decide_eq_true hlk
      replace hs : pm_m2 (fun x y => if y < x then y else x) (pc + 3) ls st mem = some (pc', ls', st', mem') := hs
      unfold pm_m2 at hs
      split at hs
      next y x rest _ =>
        cases hq : decide ((rest.map fun v => v.category).sum ≤ 8) with
        | false => rw [hq] at hs; cases hs
        | true =>
          rw [hq] at hs
          simp only [cond_true, Option.some.injEq, Prod.mk.injEq] at hs
          obtain ⟨rfl, rfl, rfl, rfl⟩ := hs
          have hq := of_decide_eq_true hq
          exact va_mmin (ls := la) hx hb (hml.trans hL.size.symm) hown (pm_word hts rfl hlk) (pm_word hts rfl pm_w_ns) (pm_word hts rfl pm_w_mi) (pm_word hts rfl pm_w_nc) (Nat.le_trans hf1 hfr) (by rw [hcat]; omega) hc hsl hd (kk _ _ _ hP hD hS hL)
      next => cases hs
    | 5, hs, hlk =>
      have hlk : lw_tbl[pl]? = some (Cond.methodLink S.1.cls i Lib.Math.abs.name) := of_decide_eq_true hlk
      replace hs : pm_m1 (fun x => if 0 ≤ x then x else 0 - x) (pc + 3) ls st mem = some (pc', ls', st', mem') := hs
      unfold pm_m1 at hs
      split at hs
      next x rest _ =>
        cases hq : decide ((rest.map fun v => v.category).sum ≤ 8) with
        | false => rw [hq] at hs; cases hs
        | true =>
          rw [hq] at hs
          simp only [cond_true, Option.some.injEq, Prod.mk.injEq] at hs
          obtain ⟨rfl, rfl, rfl, rfl⟩ := hs
          have hq := of_decide_eq_true hq
          exact va_mabs (ls := la) hx hb (hml.trans hL.size.symm) hown (pm_word hts rfl hlk) (pm_word hts rfl pm_w_as) (pm_word hts rfl pm_w_mi) (pm_word hts rfl pm_w_ac) (Nat.le_trans hf1 hfr) (by rw [hcat]; omega) hc hsl hd (kk _ _ _ hP hD hS hL)
      next => cases hs
    | k + 6, _, hlk => cases hlk
  | _ => exact nomatch (show false = true from hsp)
theorem pm_row_mem {rs : List pm_R} {pc : Nat} {r : pm_R} (h : pm_row rs pc = some r) : r ∈ rs ∧ r.1 = pc := by
  induction rs with
  | nil => cases h
  | cons q t ih =>
    simp only [pm_row] at h
    cases hq : Nat.beq q.1 pc with
    | true =>
      rw [hq] at h
      cases h
      exact ⟨List.mem_cons_self, Nat.eq_of_beq_eq_true hq⟩
    | false =>
      rw [hq] at h
      obtain ⟨h1, h2⟩ := ih h
      exact ⟨List.mem_cons_of_mem _ h1, h2⟩
theorem pm_ret_end {r : pm_R} {st : List Value} {v : Option Value} (h : pm_ret S r st = some v) (hok : pm_okr S r = true) : pm_End S r.1 v ∧ st = v.toList := by
  obtain ⟨pc, ins, a, b, d, pl, w, w2⟩ := r
  unfold pm_okr at hok
  simp only [Bool.and_eq_true, decide_eq_true_eq] at hok
  obtain ⟨hd, -⟩ := hok
  unfold pm_ret at h
  split at h
  next x h1 h2 =>
    have h1 : ins = .ireturn := h1
    subst h1
    cases h
    exact ⟨Or.inl ⟨x, rfl, hd, Or.inl h2⟩, rfl⟩
  next x h1 h2 =>
    have h1 : ins = .ireturn := h1
    subst h1
    cases hq : (decide (x = 0) || decide (x = 1)) with
    | false => rw [hq] at h; cases h
    | true =>
      rw [hq] at h
      cases h
      simp only [Bool.or_eq_true, decide_eq_true_eq] at hq
      exact ⟨Or.inl ⟨x, rfl, hd, Or.inr ⟨h2, hq⟩⟩, rfl⟩
  next x h1 h2 =>
    have h1 : ins = .lreturn := h1
    subst h1
    cases h
    exact ⟨Or.inr (Or.inl ⟨x, rfl, hd, h2⟩), rfl⟩
  next h1 h2 =>
    have h1 : ins = .return_ := h1
    subst h1
    cases h
    exact ⟨Or.inr (Or.inr ⟨rfl, hd, h2⟩), rfl⟩
  next => cases h
set_option maxHeartbeats 1000000 in
/-- every run of the pure machine is a run of the machine -/
theorem pm_snd (hOK : pm_OK) (ro : pm_RO) : ∀ n : Nat, pm_Snd ro n := by
  intro n
  induction n with
  | zero => intro y pc ls st mem v mem' h; exact nomatch (show (none : Option (Option Value × pm_M)) = some (v, mem') from h)
  | succ n ih =>
    intro y pc ls st mem v mem' h p l e R s m args below meth c cells slots Q D adr cI cS A S hsig C hc hsl kret
    simp only [pm_run] at h
    rw [hsig] at h
    cases hcod : pm_cod[y]? with
    | none => rw [hcod] at h; cases h
    | some rs =>
      rw [hcod] at h
      cases hrow : pm_row rs pc with
      | none => simp only [hrow] at h; cases h
      | some r =>
        obtain ⟨hin, rfl⟩ := pm_row_mem hrow
        have hok := hOK.1 hsig hcod r hin
        simp only [hrow] at h
        split at h
        · split at h
          next pc' ls' st' mem1 hst => exact pm_step_ok hst hok C (ih y pc' ls' st' mem1 v mem' h p l e R s m args below meth c cells slots Q D adr cI cS A S hsig C hc hsl kret)
          next => cases h
        · cases hr : pm_ret S r st with
          | none => rw [hr] at h; cases h
          | some v0 =>
            rw [hr] at h
            simp only [Option.map_some, Option.some.injEq, Prod.mk.injEq] at h
            obtain ⟨rfl, rfl⟩ := h
            obtain ⟨hE, hst⟩ := pm_ret_end hr hok
            intro H locs la hP hD hS hL
            have := kret r.1 la H locs hP hD hS hE
            rw [hst]
            cases v0 <;> exact this
        · cases hsp : pm_isSp r with
          | true =>
            rw [hsp] at h
            simp only [cond_true] at h
            split at h
            next pc' ls' st' mem1 hst =>
              cases hq : (Nat.ble 1 S.2.2.2.2.1 && Nat.ble 26 S.2.2.2.2.2.1) with
              | false => rw [hq] at h; cases h
              | true =>
                rw [hq] at h
                rw [Bool.and_eq_true] at hq
                exact pm_spc_ok hsp hst (Nat.le_of_ble_eq_true hq.1) (Nat.le_of_ble_eq_true hq.2) hok C hc hsl (ih y pc' ls' st' mem1 v mem' h p l e R s m args below meth c cells slots Q D adr cI cS A S hsig C hc hsl kret)
            next => cases h
          | false =>
            rw [hsp] at h
            simp only [cond_false] at h
            split at h
            next y' J As rest hcal =>
              cases hq : pm_may S J As rest with
              | false => rw [hq] at h; cases h
              | true =>
                rw [hq] at h
                simp only [cond_true] at h
                split at h
                next v1 mem1 hrun => exact pm_call_ok hOK ih hcal hq hrun hok C hc hsl (ih y (r.1 + 3) ls _ mem1 v mem' h p l e R s m args below meth c cells slots Q D adr cI cS A S hsig C hc hsl kret)
                next => cases h
            next => cases h
end PMR
