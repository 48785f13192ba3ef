def pm_nests : List Cond := [Cond.methodLinkNest "ReadFromRight$Sheet" 32 yX9_within "ReadFromRight"]
/-- the words that a callee takes along -/
def pm_tb : List Cond := lw_tbl.filter goodWord
/-- System.arraycopy, Math.max, min, abs: they aren't walked -/
def pm_oksp (own : String) (i c pl : Nat) : Bool := match c with
  | 2 => decide (lw_tbl[pl]? = some (Cond.methodLink own i arraycopyName))
  | 3 => decide (lw_tbl[pl]? = some (Cond.methodLink own i Lib.Math.max.name))
  | 4 => decide (lw_tbl[pl]? = some (Cond.methodLink own i Lib.Math.min.name))
  | 5 => decide (lw_tbl[pl]? = some (Cond.methodLink own i Lib.Math.abs.name))
  | _ => false
/-- a row is what the bytes say, and its links are among the tables' words -/
def pm_okr (S : pm_S) (r : pm_R) : Bool := match r with
  | (pc, ins, a, b, c, pl, w, w2) => decide (decode S.2.1 pc = .ok (ins, pm_len ins a)) && (match ins with
    | .iconst n => decide (Int32.ofInt n = w)
    | .bipush n => decide ((Int8.ofInt n).toInt32 = w)
    | .sipush n => decide ((Int16.ofInt n).toInt32 = w)
    | .lconst n => decide (Int64.ofNat (n : Nat) = w2)
    | .ldc i => decide (lw_tbl[pl]? = some (Cond.constant S.1.cls i w))
    | .ldc_w i => decide (lw_tbl[pl]? = some (Cond.constant S.1.cls i w))
    | .ldc2_w i => decide (lw_tbl[pl]? = some (Cond.constantLong S.1.cls i w2))
    | .iinc _ n => decide (Int32.ofInt n = w)
    | .getfield i => (match classes[a]? with
      | some q => decide (b < q.2.2) && decide (lw_tbl[pl]? = some (Cond.fieldLink S.1.cls i (q.2.1 b).1 (q.2.1 b).2.1 (q.2.1 b).2.2.1))
      | none => false)
    | .putfield i => (match classes[a]? with
      | some q => decide (b < q.2.2) && decide (lw_tbl[pl]? = some (Cond.fieldLink S.1.cls i (q.2.1 b).1 (q.2.1 b).2.1 (q.2.1 b).2.2.1)) && !(q.2.1 b).2.2.2 && ((decide (c = 0) && decide ((q.2.1 b).2.2.1 = "I")) || (decide (c = 1) && decide ((q.2.1 b).2.2.1 = "Z")))
      | none => false)
    | .getstatic i => (match pm_statics[b]? with
      | some q => decide (q.2.2.2 = a) && decide (lw_tbl[pl]? = some (Cond.fieldLink S.1.cls i q.1 q.2.1 q.2.2.1))
      | none => false)
    | .goto off => decide ((pc : Int) + off = (a : Int))
    | .ifCond _ off => decide ((pc : Int) + off = (a : Int))
    | .if_icmp _ off => decide ((pc : Int) + off = (a : Int))
    | .invokevirtual i => (match pm_sig[a]? with
      | some J => decide (lw_tbl[pl]? = some (Cond.methodLink S.1.cls i J.1)) && !J.2.2.2.2.2.2.2.1 && decide (J.2.2.2.2.2.2.1 = b) && decide (a ≠ m_L_law) && (match classes[c]? with
        | some q => decide (q.1 = J.1.cls)
        | none => false)
      | none => false)
    | .invokestatic i => bif decide (2 ≤ c) then pm_oksp S.1.cls i c pl else (match pm_sig[a]? with
      | some J => J.2.2.2.2.2.2.2.1 && decide (J.2.2.2.2.2.2.1 = b) && decide (a ≠ m_L_law) && (decide (lw_tbl[pl]? = some (Cond.methodLink S.1.cls i J.1)) || decide (Cond.methodLinkNest S.1.cls i J.1 "ReadFromRight" ∈ pm_nests))
      | none => false)
    | _ => true)
def pm_oks (J : pm_S) : Bool :=
  decide (lw_tbl[J.2.2.2.2.2.2.2.2.1]? = some (Cond.code J.1 J.2.1 J.2.2.1 J.2.2.2.1)) && decide (lw_tbl[J.2.2.2.2.2.2.2.2.2.1]? = some (Cond.initialized J.1.cls)) &&
  (bif J.2.2.2.2.2.2.2.1 then decide (lw_tbl[J.2.2.2.2.2.2.2.2.2.2.1]? = some (Cond.static J.1)) else decide (lw_tbl[J.2.2.2.2.2.2.2.2.2.2.1]? = some (Cond.instanceMethod J.1)) && decide (lw_tbl[J.2.2.2.2.2.2.2.2.2.2.2]? = some (Cond.selects J.1.cls J.1 J.1))) &&
  decide (J.1.cls ≠ "java/lang/invoke/MethodHandle") && decide (J.1.cls ≠ "java/lang/invoke/VarHandle") && plainName J.1.cls &&
  decide ((parseMethodDescriptor J.1.desc).map (fun d => d.parameters.length) = some (bif J.2.2.2.2.2.2.2.1 then J.2.2.2.2.2.2.1 else J.2.2.2.2.2.2.1 - 1)) && (J.2.2.2.2.2.2.2.1 || decide (0 < J.2.2.2.2.2.2.1))
def pm_okm (y : Nat) : Bool := match pm_sig[y]?, pm_cod[y]? with
  | some S, some rs => rs.all (pm_okr S) && pm_oks S
  | _, _ => false
theorem pm_mem {pl : Nat} {w : Cond} (hg : goodWord w = true) (h : lw_tbl[pl]? = some w) : w ∈ pm_tb := List.mem_filter.mpr ⟨List.mem_of_getElem? h, hg⟩
theorem pm_in_0 : ∀ w ∈ u_ws RX0 TX0 4, w ∈ lw_tbl ∧ goodWord w = true := by decide +kernel
theorem pm_in_1 : ∀ w ∈ u_ws RX1 TX1 6, w ∈ lw_tbl ∧ goodWord w = true := by decide +kernel
theorem pm_in_2 : ∀ w ∈ u_ws RX2 TX2 1, w ∈ lw_tbl ∧ goodWord w = true := by decide +kernel
theorem pm_in_3 : ∀ w ∈ u_ws RX3 TX3 3, w ∈ lw_tbl ∧ goodWord w = true := by decide +kernel
theorem pm_in_4 : ∀ w ∈ u_ws RX4 TX4 3, w ∈ lw_tbl ∧ goodWord w = true := by decide +kernel
theorem pm_in_5 : ∀ w ∈ u_ws RX5 TX5 3, w ∈ lw_tbl ∧ goodWord w = true := by decide +kernel
theorem pm_in_6 : ∀ w ∈ u_ws RX6 TX6 3, w ∈ lw_tbl ∧ goodWord w = true := by decide +kernel
theorem pm_in_7 : ∀ w ∈ u_ws RX7 TX7 12, w ∈ lw_tbl ∧ goodWord w = true := by decide +kernel
theorem pm_in_8 : ∀ w ∈ u_ws RX8 TX8 3, w ∈ lw_tbl ∧ goodWord w = true := by decide +kernel
theorem pm_in_9 : ∀ w ∈ u_ws RX9 TX9 11, w ∈ lw_tbl ∧ goodWord w = true := by decide +kernel
theorem pm_in_10 : ∀ w ∈ u_ws RX10 TX10 20, w ∈ lw_tbl ∧ goodWord w = true := by decide +kernel
def pm_ty : Nat → Nat → FieldType := fun c => match c with
  | 0 => tyX0
  | 1 => tyX1
  | 2 => tyX2
  | 3 => tyX3
  | 4 => tyX4
  | 5 => tyX5
  | 6 => tyX6
  | 7 => tyX7
  | 8 => tyX8
  | 9 => tyX9
  | _ => tyX10
theorem pm_cls {a : Nat} {q : vw_C} (h : classes[a]? = some q) : (∀ w ∈ u_ws q.1 q.2.1 q.2.2, w ∈ pm_tb) ∧ (∀ k, k < q.2.2 → parseFieldDescriptor (q.2.1 k).2.2.1 = some (pm_ty a k)) ∧ (∀ i, i < q.2.2 → ∀ j, j < q.2.2 → i ≠ j → (q.2.1 i).2.1 ≠ (q.2.1 j).2.1) := by
  match a, h with
  | 0, h => obtain rfl := Option.some.inj h; exact ⟨fun w hw => List.mem_filter.mpr (pm_in_0 w hw), tyX0_ok, nmX0⟩
  | 1, h => obtain rfl := Option.some.inj h; exact ⟨fun w hw => List.mem_filter.mpr (pm_in_1 w hw), tyX1_ok, nmX1⟩
  | 2, h => obtain rfl := Option.some.inj h; exact ⟨fun w hw => List.mem_filter.mpr (pm_in_2 w hw), tyX2_ok, nmX2⟩
  | 3, h => obtain rfl := Option.some.inj h; exact ⟨fun w hw => List.mem_filter.mpr (pm_in_3 w hw), tyX3_ok, nmX3⟩
  | 4, h => obtain rfl := Option.some.inj h; exact ⟨fun w hw => List.mem_filter.mpr (pm_in_4 w hw), tyX4_ok, nmX4⟩
  | 5, h => obtain rfl := Option.some.inj h; exact ⟨fun w hw => List.mem_filter.mpr (pm_in_5 w hw), tyX5_ok, nmX5⟩
  | 6, h => obtain rfl := Option.some.inj h; exact ⟨fun w hw => List.mem_filter.mpr (pm_in_6 w hw), tyX6_ok, nmX6⟩
  | 7, h => obtain rfl := Option.some.inj h; exact ⟨fun w hw => List.mem_filter.mpr (pm_in_7 w hw), tyX7_ok, nmX7⟩
  | 8, h => obtain rfl := Option.some.inj h; exact ⟨fun w hw => List.mem_filter.mpr (pm_in_8 w hw), tyX8_ok, nmX8⟩
  | 9, h => obtain rfl := Option.some.inj h; exact ⟨fun w hw => List.mem_filter.mpr (pm_in_9 w hw), tyX9_ok, nmX9⟩
  | 10, h => obtain rfl := Option.some.inj h; exact ⟨fun w hw => List.mem_filter.mpr (pm_in_10 w hw), tyX10_ok, nmX10⟩
  | k + 11, h => simp [classes] at h
theorem pm_w_cs : lw_tbl[705]? = some (Cond.static arraycopyName) := by decide +kernel
theorem pm_w_cn : lw_tbl[706]? = some (Cond.native arraycopyName) := by decide +kernel
theorem pm_w_ci : lw_tbl[60]? = some (Cond.initialized "java/lang/System") := by decide +kernel
theorem pm_w_mi : lw_tbl[57]? = some (Cond.initialized "java/lang/Math") := by decide +kernel
theorem pm_w_xs : lw_tbl[482]? = some (Cond.static Lib.Math.max.name) := by decide +kernel
theorem pm_w_ns : lw_tbl[412]? = some (Cond.static Lib.Math.min.name) := by decide +kernel
theorem pm_w_as : lw_tbl[580]? = some (Cond.static Lib.Math.abs.name) := by decide +kernel
theorem pm_w_xc : lw_tbl[483]? = some (Cond.code Lib.Math.max.name Lib.Math.max.code 2 (some .int)) := by decide +kernel
theorem pm_w_nc : lw_tbl[413]? = some (Cond.code Lib.Math.min.name Lib.Math.min.code 2 (some .int)) := by decide +kernel
theorem pm_w_ac : lw_tbl[581]? = some (Cond.code Lib.Math.abs.name Lib.Math.abs.code 1 (some .int)) := by decide +kernel
def pm_OK : Prop := (∀ {y : Nat} {S : pm_S} {rs : List pm_R}, pm_sig[y]? = some S → pm_cod[y]? = some rs → ∀ r ∈ rs, pm_okr S r = true) ∧ ∀ {y : Nat} {S : pm_S}, pm_sig[y]? = some S → y ≠ m_L_law → pm_oks S = true
