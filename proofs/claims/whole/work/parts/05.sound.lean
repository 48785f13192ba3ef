/-! THE PURE MACHINE IS THE MACHINE: its steps. -/
theorem pm_v_cat (adr : Nat → Nat) (v : Value) : (pm_v adr v).category = v.category := by cases v <;> rfl
theorem pm_isL_cat (v : Value) : pm_isL (some v) = true ↔ v.category = 2 := by cases v <;> simp [pm_isL, Value.category]
theorem pm_isL_cat1 {v : Value} (h : (!(pm_isL (some v))) = true) : v.category = 1 := by cases v <;> first | rfl | (simp [pm_isL] at h)
def pm_lv (adr : Nat → Nat) : Nat → List Value → List (Nat × Value)
  | _, [] => []
  | i, v :: vs => bif decide (v = .null) then pm_lv adr (i + 1) vs else (i, pm_v adr v) :: pm_lv adr (i + 1) vs
theorem pm_lv_mem {adr : Nat → Nat} {q : Nat × Value} : ∀ (ls : List Value) (i : Nat), q ∈ pm_lv adr i ls ↔ ∃ (k : Nat) (v : Value), ls[k]? = some v ∧ v ≠ .null ∧ q = (i + k, pm_v adr v) := by
  intro ls
  induction ls with
  | nil => intro i; simp [pm_lv]
  | cons a t ih =>
    intro i
    by_cases ha : a = .null
    · simp only [pm_lv, ha, decide_true, cond_true, ih]
      constructor
      · rintro ⟨k, v, h1, h2, h3⟩
        exact ⟨k + 1, v, by simpa using h1, h2, by rw [h3]; congr 1; omega⟩
      · rintro ⟨k, v, h1, h2, h3⟩
        cases k with
        | zero => simp at h1; exact absurd h1.symm h2
        | succ k => exact ⟨k, v, by simpa using h1, h2, by rw [h3]; congr 1; omega⟩
    · simp only [pm_lv, ha, decide_false, cond_false, List.mem_cons, ih]
      constructor
      · rintro (rfl | ⟨k, v, h1, h2, h3⟩)
        · exact ⟨0, a, by simp, ha, by simp⟩
        · exact ⟨k + 1, v, by simpa using h1, h2, by rw [h3]; congr 1; omega⟩
      · rintro ⟨k, v, h1, h2, h3⟩
        cases k with
        | zero =>
          simp at h1
          subst h1
          exact Or.inl (by simpa using h3)
        | succ k => exact Or.inr ⟨k, v, by simpa using h1, h2, by rw [h3]; congr 1; omega⟩
def pm_L (adr : Nat → Nat) (nL : Nat) (ls : List Value) (la : Array Slot) : Prop := ls.length = nL ∧ lv_has la nL (pm_lv adr 0 ls)
theorem pm_L.get {adr : Nat → Nat} {nL : Nat} {ls : List Value} {la : Array Slot} (h : pm_L adr nL ls la) {i : Nat} {v : Value} (hg : ls[i]? = some v) (hv : v ≠ .null) : la[i]? = some (.val (pm_v adr v)) :=
  h.2.2.2 (i, pm_v adr v) ((pm_lv_mem ls 0).mpr ⟨i, v, hg, hv, by simp⟩)
theorem pm_L.size {adr : Nat → Nat} {nL : Nat} {ls : List Value} {la : Array Slot} (h : pm_L adr nL ls la) : la.size = nL := h.2.1
theorem pm_clr_len (ls : List Value) (i : Nat) : (pm_clr ls i).length = ls.length := by
  cases i with
  | zero => rfl
  | succ i => simp only [pm_clr]; cases pm_isL ls[i]? <;> simp
theorem pm_clr_get {ls : List Value} {i k : Nat} {v : Value} (h : (pm_clr ls i)[k]? = some v) (hv : v ≠ .null) : ls[k]? = some v ∧ ¬ (k + 1 = i ∧ v.category = 2) := by
  cases i with
  | zero => exact ⟨h, fun q => by omega⟩
  | succ i =>
    simp only [pm_clr] at h
    cases hl : pm_isL ls[i]? with
    | false =>
      rw [hl] at h
      simp only [cond_false] at h
      refine ⟨h, fun q => ?_⟩
      obtain ⟨q1, q2⟩ := q
      have : k = i := by omega
      subst this
      rw [h] at hl
      rw [(pm_isL_cat v).mpr q2] at hl
      cases hl
    | true =>
      rw [hl] at h
      simp only [cond_true, List.getElem?_set] at h
      by_cases hk : i = k
      · subst hk
        rw [if_pos rfl] at h
        split at h
        · exact absurd (Option.some.inj h).symm hv
        · cases h
      · rw [if_neg hk] at h
        exact ⟨h, fun q => hk (by omega)⟩
theorem pm_L.set1 {adr : Nat → Nat} {nL : Nat} {ls : List Value} {la la' : Array Slot} (h : pm_L adr nL ls la) {i : Nat} {v : Value}
    (h' : lv_has la' nL ((i, pm_v adr v) :: (pm_lv adr 0 ls).filter (fun q => !(q.1 == i) && !(q.1 + 1 == i && q.2.category == 2)))) : pm_L adr nL (pm_set ls i v) la' := by
  refine ⟨by simp only [pm_set, List.length_set, pm_clr_len]; exact h.1, h'.1, h'.2.1, fun q hq => h'.2.2 q ?_⟩
  obtain ⟨k, u, h1, h2, rfl⟩ := (pm_lv_mem _ 0).mp hq
  simp only [pm_set, List.getElem?_set] at h1
  by_cases hk : i = k
  · subst hk
    rw [if_pos rfl] at h1
    split at h1
    · cases h1
      simp
    · cases h1
  · rw [if_neg hk] at h1
    obtain ⟨g1, g2⟩ := pm_clr_get h1 h2
    refine List.mem_cons_of_mem _ (List.mem_filter.mpr ⟨(pm_lv_mem ls 0).mpr ⟨k, u, g1, h2, rfl⟩, ?_⟩)
    simp only [Nat.zero_add, Bool.and_eq_true, Bool.not_eq_true', beq_eq_false_iff_ne, ne_eq, Bool.and_eq_false_iff, pm_v_cat]
    refine ⟨fun q => hk q.symm, ?_⟩
    by_cases q : k + 1 = i
    · exact Or.inr (fun z => g2 ⟨q, z⟩)
    · exact Or.inl q
theorem pm_L.set2 {adr : Nat → Nat} {nL : Nat} {ls : List Value} {la la' : Array Slot} (h : pm_L adr nL ls la) {i : Nat} {v : Value}
    (h' : lv_has la' nL ((i, pm_v adr v) :: (pm_lv adr 0 ls).filter (fun q => !(q.1 == i) && (!(q.1 == i + 1) && !(q.1 + 1 == i && q.2.category == 2))))) : pm_L adr nL (pm_set2 ls i v) la' := by
  refine ⟨by simp only [pm_set2, List.length_set, pm_clr_len]; exact h.1, h'.1, h'.2.1, fun q hq => h'.2.2 q ?_⟩
  obtain ⟨k, u, h1, h2, rfl⟩ := (pm_lv_mem _ 0).mp hq
  simp only [pm_set2] at h1
  rw [List.getElem?_set] at h1
  by_cases hk2 : i + 1 = k
  · rw [if_pos hk2] at h1
    split at h1
    · exact absurd (Option.some.inj h1).symm h2
    · cases h1
  rw [if_neg hk2, List.getElem?_set] at h1
  by_cases hk : i = k
  · subst hk
    rw [if_pos rfl] at h1
    split at h1
    · cases h1
      simp
    · cases h1
  · rw [if_neg hk] at h1
    obtain ⟨g1, g2⟩ := pm_clr_get h1 h2
    refine List.mem_cons_of_mem _ (List.mem_filter.mpr ⟨(pm_lv_mem ls 0).mpr ⟨k, u, g1, h2, rfl⟩, ?_⟩)
    simp only [Nat.zero_add, Bool.and_eq_true, Bool.not_eq_true', beq_eq_false_iff_ne, ne_eq, Bool.and_eq_false_iff, pm_v_cat]
    refine ⟨fun q => hk q.symm, fun q => hk2 q.symm, ?_⟩
    by_cases q : k + 1 = i
    · exact Or.inr (fun z => g2 ⟨q, z⟩)
    · exact Or.inl q
/-! the world -/
def pm_slot (adr : Nat → Nat) (x : Int32) : Option Nat → Value
  | none => .int x
  | some q => .ref (adr q)
def pm_fs (adr : Nat → Nat) (f : Nat → Int32) (sl : List (Option Nat)) : List Value := sl.mapIdx (fun k o => pm_slot adr (f k) o)
def pm_cell (adr : Nat → Nat) (cI cS : ClassId) (f : Nat → Int32) (t : Nat) (k : pm_K) : Nat × va_E := match k with
  | .inl n => (adr t, .inl (cI, n, .inl f))
  | .inr (.inl tags) => (adr t, .inl (cS, tags.length, .inr (.inr (.inr (.inr (fun j => (tags[j]?).map adr))))))
  | .inr (.inr (ci, sl)) => (adr t, .inr (ci, pm_fs adr f sl))
def pm_ws (adr : Nat → Nat) (cI cS : ClassId) (mem : pm_M) : va_W := pm_lay.mapIdx (fun t k => pm_cell adr cI cS (mem t) t k)
theorem pm_ws_get {adr : Nat → Nat} {cI cS : ClassId} {mem : pm_M} {t : Nat} {k : pm_K} (h : pm_lay[t]? = some k) : (pm_ws adr cI cS mem)[t]? = some (pm_cell adr cI cS (mem t) t k) := by
  simp only [pm_ws, List.getElem?_mapIdx, h, Option.map_some]
theorem pm_cell_adr (adr : Nat → Nat) (cI cS : ClassId) (f : Nat → Int32) (t : Nat) (k : pm_K) : (pm_cell adr cI cS f t k).1 = adr t := by
  rcases k with n | tags | ⟨ci, sl⟩ <;> rfl
theorem pm_fs_len (adr : Nat → Nat) (f : Nat → Int32) (sl : List (Option Nat)) : (pm_fs adr f sl).length = sl.length := by simp [pm_fs]
theorem pm_fs_get {adr : Nat → Nat} {f : Nat → Int32} {sl : List (Option Nat)} {b : Nat} {o : Option Nat} (h : sl[b]? = some o) : (pm_fs adr f sl)[b]? = some (pm_slot adr (f b) o) := by
  simp only [pm_fs, List.getElem?_mapIdx, h, Option.map_some]
theorem pm_fs_set {adr : Nat → Nat} {f : Nat → Int32} {sl : List (Option Nat)} {b : Nat} {x : Int32} (h : sl[b]? = some none) : (pm_fs adr f sl).set b (.int x) = pm_fs adr (upd f b x) sl := by
  apply List.ext_getElem?
  intro j
  rw [List.getElem?_set]
  by_cases hj : b = j
  · subst hj
    have hl : b < sl.length := (List.getElem?_eq_some_iff.mp h).1
    rw [if_pos rfl, if_pos (by rw [pm_fs_len]; exact hl), pm_fs_get h]
    simp [upd, pm_slot]
  · rw [if_neg hj]
    cases ho : sl[j]? with
    | none => simp [pm_fs, ho]
    | some o =>
      rw [pm_fs_get ho, pm_fs_get ho]
      cases o with
      | none => simp only [upd, pm_slot]; rw [if_neg (fun q => hj q.symm)]
      | some q => rfl
theorem pm_ws_set {adr : Nat → Nat} {cI cS : ClassId} {mem : pm_M} {t : Nat} {k : pm_K} {f : Nat → Int32} (h : pm_lay[t]? = some k) : (pm_ws adr cI cS mem).set t (pm_cell adr cI cS f t k) = pm_ws adr cI cS (pm_upR mem t f) := by
  apply List.ext_getElem?
  intro j
  rw [List.getElem?_set]
  by_cases hj : t = j
  · subst hj
    have hl : t < pm_lay.length := (List.getElem?_eq_some_iff.mp h).1
    rw [if_pos rfl, if_pos (by simp only [pm_ws, List.length_mapIdx]; exact hl), pm_ws_get h]
    simp [pm_upR]
  · rw [if_neg hj]
    cases ho : pm_lay[j]? with
    | none => simp [pm_ws, ho]
    | some o =>
      rw [pm_ws_get ho, pm_ws_get ho]
      simp only [pm_upR]
      rw [if_neg (fun q => hj q.symm)]
theorem pm_up_R (mem : pm_M) (t k : Nat) (x : Int32) : pm_up mem t k x = pm_upR mem t (upd (mem t) k x) := rfl
/-- what the machine's statics and the cells that nobody writes hold, at a method's start -/
def pm_St (adr : Nat → Nat) (ro : pm_RO) (A : Nat → Prop) (U : State) : Prop := (∀ (t N : Nat) (f : Nat → Int32), pm_lay[t]? = none → ro t = some (N, f) → va_T .int (adr t) N (fun j => .int (f j)) A U U.heap) ∧ (∀ q ∈ pm_statics, va_Z q.1 q.2.1 q.2.2.1 (.ref (adr q.2.2.2)) A U U.heap) ∧ ∀ w ∈ pm_nests, va_Nw w U
abbrev pm_tys (cI cS : ClassId) : List (ClassId × FieldType) := [(cI, .int), (cS, .object "ReadFromRight$Sheet")]
def pm_Cx (p : Program) (R : Room) (s : State) (m : MethodId) (args : Array Value) (c : Code) (D : va_G) (adr : Nat → Nat) (cI cS : ClassId) (ro : pm_RO) (A : Nat → Prop) (S : pm_S) : Prop :=
  p.tables.exec = Jvm.exec ∧ c.code = S.2.1 ∧ c.maxLocals = S.2.2.1 ∧ s.vm.findClass S.1.cls = some m.cls ∧ (∀ w ∈ pm_tb, w.before args s = true) ∧ va_K D classes (pm_tys cI cS) s ∧ (∀ q : Nat, s.heap.size ≤ q → A q) ∧ pm_St adr ro A s ∧ S.2.2.2.2.1 ≤ R.frames ∧ S.2.2.2.2.2.1 ≤ R.locals
theorem pm_inb_in {i : Int32} {n : Nat} (h : pm_inb i n = true) : vp_in i n := by
  simp only [pm_inb, Bool.and_eq_true, Bool.not_eq_true', decide_eq_false_iff_not, decide_eq_true_eq] at h
  rintro (q | q)
  · exact h.1 q
  · omega
theorem pm_word {args : Array Value} {s : State} {pl : Nat} {w : Cond} (hts : ∀ w ∈ pm_tb, w.before args s = true) (hg : goodWord w = true) (h : lw_tbl[pl]? = some w) : w.before args s = true := hts w (pm_mem hg h)
section PMS
variable {p : Program} {l : Launch} {e : Env} {R : Room} {s : State} {m : MethodId} {args : Array Value} {below : List Frame} {meth : Method} {c : Code} {cells slots : Nat} {Q : State → Prop} {D : va_G} {adr : Nat → Nat} {cI cS : ClassId} {ro : pm_RO} {A : Nat → Prop} {S : pm_S}
/-- from every heap that holds the numbers, the machine at this frame comes to Q -/
def pm_Go (p : Program) (l : Launch) (e : Env) (R : Room) (s : State) (m : MethodId) (args : Array Value) (below : List Frame) (meth : Method) (c : Code) (cells slots : Nat) (Q : State → Prop) (D : va_G) (adr : Nat → Nat) (cI cS : ClassId) (A : Nat → Prop) (nL pc : Nat) (ls st : List Value) (mem : pm_M) : Prop :=
  ∀ (H : Heap) (locs : List Loc) (la : Array Slot), va_P D classes (pm_ws adr cI cS mem) H → va_D A (pm_ws adr cI cS mem) → va_S A s.heap H locs → pm_L adr nL ls la → W p l e R s m args below meth c H locs cells slots Q (F0 m pc la (st.map (pm_v adr)))
set_option maxHeartbeats 3000000 in
set_option maxRecDepth 100000 in
theorem pm_step_ok {r : pm_R} {ls st ls' st' : List Value} {mem mem' : pm_M} {pc' : Nat} (hs : pm_step ro r ls st mem = some (pc', ls', st', mem')) (hok : pm_okr S r = true) (C : pm_Cx p R s m args c D adr cI cS ro A S)
    (kk : pm_Go p l e R s m args below meth c cells slots Q D adr cI cS A S.2.2.1 pc' ls' st' mem') : pm_Go p l e R s m args below meth c cells slots Q D adr cI cS A S.2.2.1 r.1 ls st mem := by
  obtain ⟨pc, ins, a, b, d, pl, w, w2⟩ := r
  obtain ⟨hx, hb, hml, hown, hts, hK, hA, hSt, hfr, hlo⟩ := C
  unfold pm_okr at hok
  simp only [Bool.and_eq_true, decide_eq_true_eq] at hok
  obtain ⟨hd, hlk⟩ := hok
  intro H locs la hP hD hS hL
  show W p l e R s m args below meth c H locs cells slots Q (F0 m pc la (st.map (pm_v adr)))
  cases ins with
  | iconst n =>
    cases hs
    exact lv_iconst hx hb hd (of_decide_eq_true hlk) (kk _ _ _ hP hD hS hL)
  | bipush n =>
    cases hs
    exact lv_bipush hx hb hd (of_decide_eq_true hlk) (kk _ _ _ hP hD hS hL)
  | sipush n =>
    cases hs
    exact lv_sipush hx hb hd (of_decide_eq_true hlk) (kk _ _ _ hP hD hS hL)
  | lconst n =>
    cases hs
    exact lv_lconst hx hb hd (of_decide_eq_true hlk) (kk _ _ _ hP hD hS hL)
  | ldc n =>
    cases hs
    exact lv_ldc hx hb hown (pm_word hts rfl (of_decide_eq_true hlk)) hd (kk _ _ _ hP hD hS hL)
  | ldc_w n =>
    cases hs
    exact lv_ldcw hx hb hown (pm_word hts rfl (of_decide_eq_true hlk)) hd (kk _ _ _ hP hD hS hL)
  | ldc2_w n =>
    cases hs
    exact lv_ldc2 hx hb hown (pm_word hts rfl (of_decide_eq_true hlk)) hd (kk _ _ _ hP hD hS hL)
  | iload_n n =>
    have hs : pm_ldi (pc + 1) ls st mem n = some (pc', ls', st', mem') := hs
    unfold pm_ldi at hs
    split at hs
    next x hg => cases hs; exact lv_iload_n hx hb hd rfl (hL.get hg (by simp)) (kk _ _ _ hP hD hS hL)
    next => cases hs
  | iload n =>
    have hs : pm_ldi (pc + 2) ls st mem n = some (pc', ls', st', mem') := hs
    unfold pm_ldi at hs
    split at hs
    next x hg => cases hs; exact lv_iload hx hb hd (hL.get hg (by simp)) (kk _ _ _ hP hD hS hL)
    next => cases hs
  | lload_n n =>
    have hs : pm_ldl (pc + 1) ls st mem n = some (pc', ls', st', mem') := hs
    unfold pm_ldl at hs
    split at hs
    next x hg => cases hs; exact lv_lload_n hx hb hd rfl (hL.get hg (by simp)) (kk _ _ _ hP hD hS hL)
    next => cases hs
  | lload n =>
    have hs : pm_ldl (pc + 2) ls st mem n = some (pc', ls', st', mem') := hs
    unfold pm_ldl at hs
    split at hs
    next x hg => cases hs; exact lv_lload hx hb hd (hL.get hg (by simp)) (kk _ _ _ hP hD hS hL)
    next => cases hs
  | aload_n n =>
    have hs : pm_lda (pc + 1) ls st mem n = some (pc', ls', st', mem') := hs
    unfold pm_lda at hs
    split at hs
    next x hg => cases hs; exact lv_aload_n hx hb hd rfl (hL.get hg (by simp)) (kk _ _ _ hP hD hS hL)
    next => cases hs
  | aload n =>
    have hs : pm_lda (pc + 2) ls st mem n = some (pc', ls', st', mem') := hs
    unfold pm_lda at hs
    split at hs
    next x hg => cases hs; exact lv_aload hx hb hd (hL.get hg (by simp)) (kk _ _ _ hP hD hS hL)
    next => cases hs
  | istore_n n =>
    have hs : pm_sti (pc + 1) ls st mem n = some (pc', ls', st', mem') := hs
    unfold pm_sti at hs
    split at hs
    next x rest _ =>
      cases hq : Nat.blt n ls.length with
      | false => rw [hq] at hs; cases hs
      | true =>
        rw [hq] at hs; cases hs
        exact lv_istore_n hx hb hd rfl hL.2 (by rw [← hL.1]; exact Nat.le_of_ble_eq_true hq) rfl (fun la' h' => kk _ _ _ hP hD hS (hL.set1 (v := .int _) h'))
    next => cases hs
  | istore n =>
    have hs : pm_sti (pc + 2) ls st mem n = some (pc', ls', st', mem') := hs
    unfold pm_sti at hs
    split at hs
    next x rest _ =>
      cases hq : Nat.blt n ls.length with
      | false => rw [hq] at hs; cases hs
      | true =>
        rw [hq] at hs; cases hs
        exact lv_istore hx hb hd hL.2 (by rw [← hL.1]; exact Nat.le_of_ble_eq_true hq) rfl (fun la' h' => kk _ _ _ hP hD hS (hL.set1 (v := .int _) h'))
    next => cases hs
  | astore_n n =>
    have hs : pm_sta (pc + 1) ls st mem n = some (pc', ls', st', mem') := hs
    unfold pm_sta at hs
    split at hs
    next x rest _ =>
      cases hq : Nat.blt n ls.length with
      | false => rw [hq] at hs; cases hs
      | true =>
        rw [hq] at hs; cases hs
        exact lv_astore_n hx hb hd rfl hL.2 (by rw [← hL.1]; exact Nat.le_of_ble_eq_true hq) rfl (fun la' h' => kk _ _ _ hP hD hS (hL.set1 (v := .ref _) h'))
    next => cases hs
  | astore n =>
    have hs : pm_sta (pc + 2) ls st mem n = some (pc', ls', st', mem') := hs
    unfold pm_sta at hs
    split at hs
    next x rest _ =>
      cases hq : Nat.blt n ls.length with
      | false => rw [hq] at hs; cases hs
      | true =>
        rw [hq] at hs; cases hs
        exact lv_astore hx hb hd hL.2 (by rw [← hL.1]; exact Nat.le_of_ble_eq_true hq) rfl (fun la' h' => kk _ _ _ hP hD hS (hL.set1 (v := .ref _) h'))
    next => cases hs
  | lstore_n n =>
    have hs : pm_stl (pc + 1) ls st mem n = some (pc', ls', st', mem') := hs
    unfold pm_stl at hs
    split at hs
    next x rest _ =>
      cases hq : Nat.blt (n + 1) ls.length with
      | false => rw [hq] at hs; cases hs
      | true =>
        rw [hq] at hs; cases hs
        exact lv_lstore_n hx hb hd rfl hL.2 (by rw [← hL.1]; exact Nat.le_of_ble_eq_true hq) rfl (fun la' h' => kk _ _ _ hP hD hS (hL.set2 (v := .long _) h'))
    next => cases hs
  | lstore n =>
    have hs : pm_stl (pc + 2) ls st mem n = some (pc', ls', st', mem') := hs
    unfold pm_stl at hs
    split at hs
    next x rest _ =>
      cases hq : Nat.blt (n + 1) ls.length with
      | false => rw [hq] at hs; cases hs
      | true =>
        rw [hq] at hs; cases hs
        exact lv_lstore hx hb hd hL.2 (by rw [← hL.1]; exact Nat.le_of_ble_eq_true hq) rfl (fun la' h' => kk _ _ _ hP hD hS (hL.set2 (v := .long _) h'))
    next => cases hs
  | iinc i n =>
    have hs : pm_inc (pc + 3) ls st mem i w = some (pc', ls', st', mem') := hs
    unfold pm_inc at hs
    split at hs
    next x hg =>
      cases hq : Nat.blt i ls.length with
      | false => rw [hq] at hs; cases hs
      | true =>
        rw [hq] at hs; cases hs
        obtain ⟨k, hk⟩ := List.getElem?_of_mem ((pm_lv_mem (adr := adr) ls 0).mpr ⟨i, .int x, hg, by simp, rfl⟩)
        rw [Nat.zero_add] at hk
        exact lv_iinc (v := x + w) hx hb hd hL.2 hk (by rw [of_decide_eq_true hlk]) (by rw [← hL.1]; exact Nat.le_of_ble_eq_true hq) rfl (fun la' h' => kk _ _ _ hP hD hS (hL.set1 (v := .int (x + w)) h'))
    next => cases hs
  | iadd =>
    have hs : pm_b2 (fun x y => x + y) (pc + 1) ls st mem = some (pc', ls', st', mem') := hs
    unfold pm_b2 at hs
    split at hs
    next => cases hs; exact lv_iadd hx hb hd (kk _ _ _ hP hD hS hL)
    next => cases hs
  | isub =>
    have hs : pm_b2 (fun x y => x - y) (pc + 1) ls st mem = some (pc', ls', st', mem') := hs
    unfold pm_b2 at hs
    split at hs
    next => cases hs; exact lv_isub hx hb hd (kk _ _ _ hP hD hS hL)
    next => cases hs
  | imul =>
    have hs : pm_b2 (fun x y => x * y) (pc + 1) ls st mem = some (pc', ls', st', mem') := hs
    unfold pm_b2 at hs
    split at hs
    next => cases hs; exact lv_imul hx hb hd (kk _ _ _ hP hD hS hL)
    next => cases hs
  | iand =>
    have hs : pm_b2 (fun x y => x &&& y) (pc + 1) ls st mem = some (pc', ls', st', mem') := hs
    unfold pm_b2 at hs
    split at hs
    next => cases hs; exact lv_iand hx hb hd (kk _ _ _ hP hD hS hL)
    next => cases hs
  | ior =>
    have hs : pm_b2 (fun x y => x ||| y) (pc + 1) ls st mem = some (pc', ls', st', mem') := hs
    unfold pm_b2 at hs
    split at hs
    next => cases hs; exact lv_ior hx hb hd (kk _ _ _ hP hD hS hL)
    next => cases hs
  | ixor =>
    have hs : pm_b2 (fun x y => x ^^^ y) (pc + 1) ls st mem = some (pc', ls', st', mem') := hs
    unfold pm_b2 at hs
    split at hs
    next => cases hs; exact lv_ixor hx hb hd (kk _ _ _ hP hD hS hL)
    next => cases hs
  | ishl =>
    have hs : pm_b2 (fun x y => x <<< (y &&& 31)) (pc + 1) ls st mem = some (pc', ls', st', mem') := hs
    unfold pm_b2 at hs
    split at hs
    next => cases hs; exact lv_ishl hx hb hd (kk _ _ _ hP hD hS hL)
    next => cases hs
  | ishr =>
    have hs : pm_b2 (fun x y => x >>> (y &&& 31)) (pc + 1) ls st mem = some (pc', ls', st', mem') := hs
    unfold pm_b2 at hs
    split at hs
    next => cases hs; exact lv_ishr hx hb hd (kk _ _ _ hP hD hS hL)
    next => cases hs
  | iushr =>
    have hs : pm_b2 (fun x y => (x.toUInt32 >>> (y.toUInt32 &&& Int32.toUInt32 31)).toInt32) (pc + 1) ls st mem = some (pc', ls', st', mem') := hs
    unfold pm_b2 at hs
    split at hs
    next => cases hs; exact lv_iushr hx hb hd rfl (kk _ _ _ hP hD hS hL)
    next => cases hs
  | idiv =>
    have hs : pm_d2 (fun x y => x / y) (pc + 1) ls st mem = some (pc', ls', st', mem') := hs
    unfold pm_d2 at hs
    split at hs
    next y x rest _ =>
      by_cases hy : y = 0
      · simp only [hy, decide_true, Bool.not_true, cond_false] at hs; cases hs
      · simp only [hy, decide_false, Bool.not_false, cond_true] at hs; cases hs
        exact lv_idiv hx hb hd hy (kk _ _ _ hP hD hS hL)
    next => cases hs
  | irem =>
    have hs : pm_d2 (fun x y => x - x / y * y) (pc + 1) ls st mem = some (pc', ls', st', mem') := hs
    unfold pm_d2 at hs
    split at hs
    next y x rest _ =>
      by_cases hy : y = 0
      · simp only [hy, decide_true, Bool.not_true, cond_false] at hs; cases hs
      · simp only [hy, decide_false, Bool.not_false, cond_true] at hs; cases hs
        exact lv_irem hx hb hd hy (kk _ _ _ hP hD hS hL)
    next => cases hs
  | ineg =>
    have hs : pm_b1 (fun x => -x) (pc + 1) ls st mem = some (pc', ls', st', mem') := hs
    unfold pm_b1 at hs
    split at hs
    next => cases hs; exact lv_ineg hx hb hd (kk _ _ _ hP hD hS hL)
    next => cases hs
  | i2b =>
    have hs : pm_b1 (fun x => x.toInt8.toInt32) (pc + 1) ls st mem = some (pc', ls', st', mem') := hs
    unfold pm_b1 at hs
    split at hs
    next => cases hs; exact lv_i2b hx hb hd rfl (kk _ _ _ hP hD hS hL)
    next => cases hs
  | i2s =>
    have hs : pm_b1 (fun x => x.toInt16.toInt32) (pc + 1) ls st mem = some (pc', ls', st', mem') := hs
    unfold pm_b1 at hs
    split at hs
    next => cases hs; exact lv_i2s hx hb hd rfl (kk _ _ _ hP hD hS hL)
    next => cases hs
  | ladd =>
    have hs : pm_l2 (fun x y => x + y) (pc + 1) ls st mem = some (pc', ls', st', mem') := hs
    unfold pm_l2 at hs
    split at hs
    next => cases hs; exact lv_ladd hx hb hd (kk _ _ _ hP hD hS hL)
    next => cases hs
  | lsub =>
    have hs : pm_l2 (fun x y => x - y) (pc + 1) ls st mem = some (pc', ls', st', mem') := hs
    unfold pm_l2 at hs
    split at hs
    next => cases hs; exact lv_lsub hx hb hd (kk _ _ _ hP hD hS hL)
    next => cases hs
  | lmul =>
    have hs : pm_l2 (fun x y => x * y) (pc + 1) ls st mem = some (pc', ls', st', mem') := hs
    unfold pm_l2 at hs
    split at hs
    next => cases hs; exact lv_lmul hx hb hd (kk _ _ _ hP hD hS hL)
    next => cases hs
  | ldiv =>
    have hs : pm_ld2 (fun x y => x / y) (pc + 1) ls st mem = some (pc', ls', st', mem') := hs
    unfold pm_ld2 at hs
    split at hs
    next y x rest _ =>
      by_cases hy : y = 0
      · simp only [hy, decide_true, Bool.not_true, cond_false] at hs; cases hs
      · simp only [hy, decide_false, Bool.not_false, cond_true] at hs; cases hs
        exact lv_ldiv hx hb hd hy (kk _ _ _ hP hD hS hL)
    next => cases hs
  | lrem =>
    have hs : pm_ld2 (fun x y => x - x / y * y) (pc + 1) ls st mem = some (pc', ls', st', mem') := hs
    unfold pm_ld2 at hs
    split at hs
    next y x rest _ =>
      by_cases hy : y = 0
      · simp only [hy, decide_true, Bool.not_true, cond_false] at hs; cases hs
      · simp only [hy, decide_false, Bool.not_false, cond_true] at hs; cases hs
        exact lv_lrem hx hb hd hy (kk _ _ _ hP hD hS hL)
    next => cases hs
  | lneg =>
    have hs : pm_lneg (pc + 1) ls st mem = some (pc', ls', st', mem') := hs
    unfold pm_lneg at hs
    split at hs
    next => cases hs; exact lv_lneg hx hb hd (kk _ _ _ hP hD hS hL)
    next => cases hs
  | i2l =>
    have hs : pm_i2l (pc + 1) ls st mem = some (pc', ls', st', mem') := hs
    unfold pm_i2l at hs
    split at hs
    next => cases hs; exact lv_i2l hx hb hd rfl (kk _ _ _ hP hD hS hL)
    next => cases hs
  | lcmp =>
    have hs : pm_lcmp (pc + 1) ls st mem = some (pc', ls', st', mem') := hs
    unfold pm_lcmp at hs
    split at hs
    next => cases hs; exact W.lcmp hx hb hd (kk _ _ _ hP hD hS hL)
    next => cases hs
  | dup =>
    have hs : pm_dup (pc + 1) ls st mem = some (pc', ls', st', mem') := hs
    unfold pm_dup at hs
    split at hs
    next v rest _ =>
      cases hq : !(pm_isL (some v)) with
      | false => rw [hq] at hs; cases hs
      | true => rw [hq] at hs; cases hs; exact lv_dup hx hb hd (by rw [pm_v_cat]; exact pm_isL_cat1 hq) (kk _ _ _ hP hD hS hL)
    next => cases hs
  | pop =>
    have hs : pm_pop (pc + 1) ls st mem = some (pc', ls', st', mem') := hs
    unfold pm_pop at hs
    split at hs
    next v rest _ =>
      cases hq : !(pm_isL (some v)) with
      | false => rw [hq] at hs; cases hs
      | true => rw [hq] at hs; cases hs; exact lv_pop hx hb hd (by rw [pm_v_cat]; exact pm_isL_cat1 hq) (kk _ _ _ hP hD hS hL)
    next => cases hs
  | dup2 =>
    have hs : pm_dup2 (pc + 1) ls st mem = some (pc', ls', st', mem') := hs
    unfold pm_dup2 at hs
    split at hs
    next v u rest _ =>
      cases hq : !(pm_isL (some v)) && !(pm_isL (some u)) with
      | false => rw [hq] at hs; cases hs
      | true =>
        rw [hq] at hs; cases hs
        rw [Bool.and_eq_true] at hq
        exact lv_dup2_11 hx hb hd (by rw [pm_v_cat]; exact pm_isL_cat1 hq.1) (by rw [pm_v_cat]; exact pm_isL_cat1 hq.2) (kk _ _ _ hP hD hS hL)
    next => cases hs
  | goto off =>
    cases hs
    exact lv_goto hx hb hd (of_decide_eq_true hlk) (kk _ _ _ hP hD hS hL)
  | ifCond k off =>
    have hs : pm_ifc k a (pc + 3) ls st mem = some (pc', ls', st', mem') := hs
    have ht : (pc : Int) + off = (a : Int) := of_decide_eq_true hlk
    unfold pm_ifc at hs
    split at hs
    next x rest _ =>
      cases hs
      have kt := fun (h : pm_cnd k x 0 = true) => by have k1 := kk _ _ _ hP hD hS hL; rw [h, cond_true] at k1; exact k1
      have kf := fun (h : pm_cnd k x 0 = false) => by have k1 := kk _ _ _ hP hD hS hL; rw [h, cond_false] at k1; exact k1
      cases k with
      | eq => exact lv_if_eq hx hb hd ht (fun h => kt (decide_eq_true h)) (fun h => kf (decide_eq_false h))
      | ne => exact lv_if_ne hx hb hd ht (fun h => kt (decide_eq_true h)) (fun h => kf (decide_eq_false (not_not_intro h)))
      | lt => exact lv_if_lt hx hb hd ht (fun h => kt (decide_eq_true h)) (fun h => kf (decide_eq_false h))
      | ge => exact lv_if_ge hx hb hd ht (fun h => kt (decide_eq_true h)) (fun h => kf (decide_eq_false h))
      | gt => exact lv_if_gt hx hb hd ht (fun h => kt (decide_eq_true h)) (fun h => kf (decide_eq_false h))
      | le => exact lv_if_le hx hb hd ht (fun h => kt (decide_eq_true h)) (fun h => kf (decide_eq_false h))
    next => cases hs
  | if_icmp k off =>
    have hs : pm_icm k a (pc + 3) ls st mem = some (pc', ls', st', mem') := hs
    have ht : (pc : Int) + off = (a : Int) := of_decide_eq_true hlk
    unfold pm_icm at hs
    split at hs
    next y x rest _ =>
      cases hs
      have kt := fun (h : pm_cnd k x y = true) => by have k1 := kk _ _ _ hP hD hS hL; rw [h, cond_true] at k1; exact k1
      have kf := fun (h : pm_cnd k x y = false) => by have k1 := kk _ _ _ hP hD hS hL; rw [h, cond_false] at k1; exact k1
      cases k with
      | eq => exact lv_icmp_eq hx hb hd ht (fun h => kt (decide_eq_true h)) (fun h => kf (decide_eq_false h))
      | ne => exact lv_icmp_ne hx hb hd ht (fun h => kt (decide_eq_true h)) (fun h => kf (decide_eq_false (not_not_intro h)))
      | lt => exact lv_icmp_lt hx hb hd ht (fun h => kt (decide_eq_true h)) (fun h => kf (decide_eq_false h))
      | ge => exact lv_icmp_ge hx hb hd ht (fun h => kt (decide_eq_true h)) (fun h => kf (decide_eq_false h))
      | gt => exact lv_icmp_gt hx hb hd ht (fun h => kt (decide_eq_true h)) (fun h => kf (decide_eq_false h))
      | le => exact lv_icmp_le hx hb hd ht (fun h => kt (decide_eq_true h)) (fun h => kf (decide_eq_false h))
    next => cases hs
  | getfield i =>
    replace hs : pm_getf a b (pc + 3) ls st mem = some (pc', ls', st', mem') := hs
    replace hlk : (match classes[a]? with
      | some q => decide (b < q.2.2) && decide (lw_tbl[pl]? = some (Cond.fieldLink S.1.cls i (q.2.1 b).1 (q.2.1 b).2.1 (q.2.1 b).2.2.1))
      | none => false) = true := hlk
    cases hc : classes[a]? with
    | none => rw [hc] at hlk; cases hlk
    | some q =>
      rw [hc] at hlk
      simp only [Bool.and_eq_true, decide_eq_true_eq] at hlk
      obtain ⟨C0, T0, N0⟩ := q
      obtain ⟨g1, -, -⟩ := pm_cls hc
      unfold pm_getf at hs
      split at hs
      next t rest =>
        split at hs
        next ci sl hlay =>
          cases hq : Nat.beq ci a with
          | false => rw [hq] at hs; cases hs
          | true =>
            rw [hq] at hs
            have hq := Nat.eq_of_beq_eq_true hq
            subst hq
            have hcell : (pm_ws adr cI cS mem)[t]? = some (adr t, .inr (ci, pm_fs adr (mem t) sl)) := pm_ws_get hlay
            have hlk2 := pm_word hts rfl hlk.2
            have hbN : b < N0 := hlk.1
            rw [cond_true] at hs
            cases hb0 : sl[b]? with
            | none => rw [hb0] at hs; cases hs
            | some o =>
              have hv := pm_fs_get (adr := adr) (f := mem t) hb0
              rw [hb0] at hs
              cases o with
              | none =>
                have hs : some (pc + 3, ls, Value.int (mem t b) :: rest, mem) = some (pc', ls', st', mem') := hs
                simp only [Option.some.injEq, Prod.mk.injEq] at hs
                obtain ⟨rfl, rfl, rfl, rfl⟩ := hs
                exact va_get (D := D) (cl := classes) (ci := ci) (v := .int (mem t b)) (C := C0) (T := T0) (N := N0) (own := S.1.cls) (Ts := pm_tb) (fs := pm_fs adr (mem t) sl) (tys := pm_tys cI cS) hx hb hts g1 hown hK hP t hcell hc b hbN hlk2 (fun _ h9 => h9) hv hd (kk _ _ _ hP hD hS hL)
              | some q =>
                have hs : some (pc + 3, ls, Value.ref q :: rest, mem) = some (pc', ls', st', mem') := hs
                simp only [Option.some.injEq, Prod.mk.injEq] at hs
                obtain ⟨rfl, rfl, rfl, rfl⟩ := hs
                exact va_get (D := D) (cl := classes) (ci := ci) (v := .ref (adr q)) (C := C0) (T := T0) (N := N0) (own := S.1.cls) (Ts := pm_tb) (fs := pm_fs adr (mem t) sl) (tys := pm_tys cI cS) hx hb hts g1 hown hK hP t hcell hc b hbN hlk2 (fun _ h9 => h9) hv hd (kk _ _ _ hP hD hS hL)
        next => cases hs
      next => cases hs
  | putfield i =>
    replace hs : pm_putf a b d (pc + 3) ls st mem = some (pc', ls', st', mem') := hs
    replace hlk : (match classes[a]? with
      | some q => decide (b < q.2.2) && decide (lw_tbl[pl]? = some (Cond.fieldLink S.1.cls i (q.2.1 b).1 (q.2.1 b).2.1 (q.2.1 b).2.2.1)) && !(q.2.1 b).2.2.2 && ((decide (d = 0) && decide ((q.2.1 b).2.2.1 = "I")) || (decide (d = 1) && decide ((q.2.1 b).2.2.1 = "Z")))
      | none => false) = true := hlk
    cases hc : classes[a]? with
    | none => rw [hc] at hlk; cases hlk
    | some q =>
      rw [hc] at hlk
      simp only [Bool.and_eq_true, Bool.or_eq_true, Bool.not_eq_true', decide_eq_true_eq] at hlk
      obtain ⟨C0, T0, N0⟩ := q
      obtain ⟨g1, g2, g3⟩ := pm_cls hc
      obtain ⟨⟨⟨hbN, hpl⟩, hfin⟩, hty⟩ := hlk
      unfold pm_putf at hs
      split at hs
      next x t rest =>
        split at hs
        next ci sl hlay =>
          cases hq : (Nat.beq ci a && (Nat.beq d 0 || (Nat.beq d 1 && (decide (x = 0) || decide (x = 1))))) with
          | false => rw [hq] at hs; cases hs
          | true =>
            rw [hq] at hs
            simp only [Bool.and_eq_true, Bool.or_eq_true, decide_eq_true_eq] at hq
            have hq1 := Nat.eq_of_beq_eq_true hq.1
            subst hq1
            have hcell : (pm_ws adr cI cS mem)[t]? = some (adr t, .inr (ci, pm_fs adr (mem t) sl)) := pm_ws_get hlay
            have hpl2 := pm_word hts rfl hpl
            rw [cond_true] at hs
            split at hs
            next hb0 =>
              simp only [Option.some.injEq, Prod.mk.injEq] at hs
              obtain ⟨rfl, rfl, rfl, rfl⟩ := hs
              have hnf : ∃ ty, parseFieldDescriptor (T0 b).2.2.1 = some ty ∧ narrow ty (.int x) = .int x ∧ fits ty (.int x) = true := by
                rcases hty with ⟨z1, z2⟩ | ⟨z1, z2⟩
                · exact ⟨.int, by rw [z2]; decide +kernel, rfl, rfl⟩
                · refine ⟨.boolean, by rw [z2]; decide +kernel, ?_⟩
                  subst z1
                  rcases hq.2 with z | ⟨-, z | z⟩
                  · cases z
                  · subst z; exact ⟨by decide +kernel, by decide +kernel⟩
                  · subst z; exact ⟨by decide +kernel, by decide +kernel⟩
              obtain ⟨ty, n1, n2, n3⟩ := hnf
              refine va_put (D := D) (cl := classes) (ci := ci) (v := .int x) (ty := ty) (C := C0) (T := T0) (N := N0) (own := S.1.cls) (Ts := pm_tb) (fs := pm_fs adr (mem t) sl) (tys := pm_tys cI cS) hx hb hts g1 (pm_ty ci) g2 g3 hown hK hP hD hS t hcell hc b hbN hpl2 (fun _ h9 => h9) hfin n1 n2 n3 (by rw [pm_fs_len]; exact (List.getElem?_eq_some_iff.mp hb0).1) hd (fun H1 locs1 hP1 hD1 hS1 => ?_)
              rw [pm_fs_set hb0] at hP1 hD1
              have e9 := pm_ws_set (adr := adr) (cI := cI) (cS := cS) (mem := mem) (f := upd (mem t) b x) hlay
              exact kk _ _ _ (by rw [pm_up_R, ← e9]; exact hP1) (by rw [pm_up_R, ← e9]; exact hD1) hS1 hL
            next => cases hs
        next => cases hs
      next => cases hs
  | getstatic i =>
    cases hs
    have hlk : (match pm_statics[b]? with
      | some q => decide (q.2.2.2 = a) && decide (lw_tbl[pl]? = some (Cond.fieldLink S.1.cls i q.1 q.2.1 q.2.2.1))
      | none => false) = true := hlk
    cases hc : pm_statics[b]? with
    | none => rw [hc] at hlk; cases hlk
    | some q =>
      rw [hc] at hlk
      simp only [Bool.and_eq_true, decide_eq_true_eq] at hlk
      have hz := hSt.2.1 q (List.mem_of_getElem? hc)
      rw [hlk.1] at hz
      exact va_gets hx hb hz hS hown (pm_word hts rfl hlk.2) (fun _ h9 => h9) hd (kk _ _ _ hP hD hS hL)
  | iaload =>
    have hs : pm_ald ro (pc + 1) ls st mem = some (pc', ls', st', mem') := hs
    unfold pm_ald at hs
    split at hs
    next i t rest _ =>
      split at hs
      next n hlay =>
        cases hq : pm_inb i n with
        | false => rw [hq] at hs; cases hs
        | true =>
          rw [hq] at hs; cases hs
          exact va_iald hx hb hK hP t 0 (pm_ws_get hlay) rfl (pm_inb_in hq) hd (kk _ _ _ hP hD hS hL)
      next => cases hs
      next hlay =>
        split at hs
        next n f hro =>
          cases hq : pm_inb i n with
          | false => rw [hq] at hs; cases hs
          | true =>
            rw [hq] at hs; cases hs
            exact va_ti hx hb (hSt.1 t n f hlay hro) hS (pm_inb_in hq) rfl hd (kk _ _ _ hP hD hS hL)
        next => cases hs
    next => cases hs
  | iastore =>
    have hs : pm_ast (pc + 1) ls st mem = some (pc', ls', st', mem') := hs
    unfold pm_ast at hs
    split at hs
    next x i t rest _ =>
      split at hs
      next n hlay =>
        cases hq : pm_inb i n with
        | false => rw [hq] at hs; cases hs
        | true =>
          rw [hq] at hs; cases hs
          have e9 := pm_ws_set (adr := adr) (cI := cI) (cS := cS) (mem := mem) (f := upd (mem t) i.toNatClampNeg x) hlay
          exact va_iast hx hb hK hP hD hS t 0 (pm_ws_get hlay) rfl (pm_inb_in hq) hd (fun H1 locs1 hP1 hD1 hS1 => kk _ _ _ (by rw [pm_up_R, ← e9]; exact hP1) (by rw [pm_up_R, ← e9]; exact hD1) hS1 hL)
      next => cases hs
    next => cases hs
  | aaload =>
    have hs : pm_aal (pc + 1) ls st mem = some (pc', ls', st', mem') := hs
    unfold pm_aal at hs
    split at hs
    next i t rest _ =>
      split at hs
      next tags hlay =>
        cases hq : pm_inb i tags.length with
        | false => rw [hq] at hs; cases hs
        | true =>
          rw [hq] at hs
          simp only [cond_true] at hs
          split at hs
          next q hg =>
            cases hs
            refine va_aldq hx hb hK hP t 1 (pm_ws_get hlay) rfl (pm_inb_in hq) hd ?_
            simp only [hg, Option.map_some]
            exact kk _ _ _ hP hD hS hL
          next => cases hs
      next => cases hs
    next => cases hs
  | arraylength =>
    have hs : pm_aln ro (pc + 1) ls st mem = some (pc', ls', st', mem') := hs
    unfold pm_aln at hs
    split at hs
    next t rest _ =>
      split at hs
      next n hlay => cases hs; exact va_alen hx hb hK hP t 0 (pm_ws_get hlay) rfl rfl hd (kk _ _ _ hP hD hS hL)
      next => cases hs
      next hlay =>
        split at hs
        next n f hro => cases hs; exact va_tlen hx hb (hSt.1 t n f hlay hro) hS rfl hd (kk _ _ _ hP hD hS hL)
        next => cases hs
    next => cases hs
  | tableswitch dflt lo hi offs =>
    have hs : pm_tsw pc dflt lo hi offs ls st mem = some (pc', ls', st', mem') := hs
    unfold pm_tsw at hs
    split at hs
    next x rest _ =>
      cases hq : decide (x.toInt < lo) || decide (hi < x.toInt) with
      | true =>
        rw [hq] at hs
        simp only [cond_true, pm_tgt] at hs
        cases hz : decide (0 ≤ (pc : Int) + dflt) with
        | false => rw [hz] at hs; cases hs
        | true =>
          rw [hz] at hs; cases hs
          simp only [Bool.or_eq_true, decide_eq_true_eq] at hq
          exact lv_tableOut hx hb hd hq (Int.toNat_of_nonneg (of_decide_eq_true hz)).symm (kk _ _ _ hP hD hS hL)
      | false =>
        rw [hq] at hs
        simp only [Bool.or_eq_false_iff, decide_eq_false_iff_not] at hq
        simp only [cond_false] at hs
        split at hs
        next off ho =>
          simp only [pm_tgt] at hs
          cases hz : decide (0 ≤ (pc : Int) + off) with
          | false => rw [hz] at hs; cases hs
          | true => rw [hz] at hs; cases hs; exact lv_tableIn hx hb hd hq.1 hq.2 ho (Int.toNat_of_nonneg (of_decide_eq_true hz)).symm (kk _ _ _ hP hD hS hL)
        next => cases hs
    next => cases hs
  | lookupswitch dflt ps =>
    have hs : pm_lsw pc dflt ps ls st mem = some (pc', ls', st', mem') := hs
    unfold pm_lsw at hs
    split at hs
    next x rest _ =>
      cases hq : (ps.toList.zip (ps.toList.drop 1)).all (fun (a, next) => a.1 < next.1) with
      | false => rw [hq] at hs; cases hs
      | true =>
        rw [hq] at hs
        simp only [cond_true, pm_tgt] at hs
        cases hz : decide (0 ≤ (pc : Int) + Op.lookupswitch.offset ps.toList dflt x.toInt) with
        | false => rw [hz] at hs; cases hs
        | true => rw [hz] at hs; cases hs; exact lv_lookup hx hb hd hq rfl (Int.toNat_of_nonneg (of_decide_eq_true hz)).symm (kk _ _ _ hP hD hS hL)
    next => cases hs
  | _ => exact nomatch (show (none : pm_O) = some (pc', ls', st', mem') from hs)
end PMS
