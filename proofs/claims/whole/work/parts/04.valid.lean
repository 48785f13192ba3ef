/-- a row is what the bytes say, and its links are among the tables' words -/
def pm_okr (S : pm_S) (r : pm_R) : Bool := match r with
  | (pc, ins, a, b, c, pl, w, w2) => decide (decode S.2.1 pc = .ok (ins, pm_len ins a)) && (match ins with
    | .iconst n => decide (Int32.ofInt n = w)
    | .bipush n => decide ((Int8.ofInt n).toInt32 = w)
    | .sipush n => decide ((Int16.ofInt n).toInt32 = w)
    | .lconst n => decide (Int64.ofNat (n : Nat) = w2)
    | .ldc i => decide (lw_tbl[pl]? = some (Cond.constant S.1.cls i w))
    | .ldc_w i => decide (lw_tbl[pl]? = some (Cond.constant S.1.cls i w))
    | .ldc2_w i => decide (lw_tbl[pl]? = some (Cond.constantLong S.1.cls i w2))
    | .iinc _ n => decide (Int32.ofInt n = w)
    | .getfield i => (match classes[a]? with
      | some q => decide (b < q.2.2) && decide (lw_tbl[pl]? = some (Cond.fieldLink S.1.cls i (q.2.1 b).1 (q.2.1 b).2.1 (q.2.1 b).2.2.1))
      | none => false)
    | .putfield i => (match classes[a]? with
      | some q => decide (b < q.2.2) && decide (lw_tbl[pl]? = some (Cond.fieldLink S.1.cls i (q.2.1 b).1 (q.2.1 b).2.1 (q.2.1 b).2.2.1)) && !(q.2.1 b).2.2.2 && ((decide (c = 0) && decide ((q.2.1 b).2.2.1 = "I")) || (decide (c = 1) && decide ((q.2.1 b).2.2.1 = "Z")))
      | none => false)
    | .getstatic i => (match pm_statics[b]? with
      | some q => decide (q.2.2.2 = a) && decide (lw_tbl[pl]? = some (Cond.fieldLink S.1.cls i q.1 q.2.1 q.2.2.1))
      | none => false)
    | .goto off => decide ((pc : Int) + off = (a : Int))
    | .ifCond _ off => decide ((pc : Int) + off = (a : Int))
    | .if_icmp _ off => decide ((pc : Int) + off = (a : Int))
    | .invokevirtual i => (match pm_sig[a]? with
      | some J => decide (lw_tbl[pl]? = some (Cond.methodLink S.1.cls i J.1)) && !J.2.2.2.2.2.2.2.1 && decide (J.2.2.2.2.2.2.1 = b) && decide (a ≠ m_L_law) && (match classes[c]? with
        | some q => decide (q.1 = J.1.cls)
        | none => false)
      | none => false)
    | .invokestatic i => bif decide (c = 2) then decide (lw_tbl[pl]? = some (Cond.methodLink S.1.cls i arraycopyName)) else (match pm_sig[a]? with
      | some J => J.2.2.2.2.2.2.2.1 && decide (J.2.2.2.2.2.2.1 = b) && decide (a ≠ m_L_law) && (decide (lw_tbl[pl]? = some (Cond.methodLink S.1.cls i J.1)) || decide (lw_tbl[pl]? = some (Cond.methodLinkNest S.1.cls i J.1 "ReadFromRight")))
      | none => false)
    | _ => true)
def pm_oks (J : pm_S) : Bool :=
  decide (lw_tbl[J.2.2.2.2.2.2.2.2.1]? = some (Cond.code J.1 J.2.1 J.2.2.1 J.2.2.2.1)) && decide (lw_tbl[J.2.2.2.2.2.2.2.2.2.1]? = some (Cond.initialized J.1.cls)) &&
  (bif J.2.2.2.2.2.2.2.1 then decide (lw_tbl[J.2.2.2.2.2.2.2.2.2.2.1]? = some (Cond.static J.1)) else decide (lw_tbl[J.2.2.2.2.2.2.2.2.2.2.1]? = some (Cond.instanceMethod J.1)) && decide (lw_tbl[J.2.2.2.2.2.2.2.2.2.2.2]? = some (Cond.selects J.1.cls J.1 J.1))) &&
  decide (J.1.cls ≠ "java/lang/invoke/MethodHandle") && decide (J.1.cls ≠ "java/lang/invoke/VarHandle") && plainName J.1.cls &&
  decide ((parseMethodDescriptor J.1.desc).map (fun d => d.parameters.length) = some (bif J.2.2.2.2.2.2.2.1 then J.2.2.2.2.2.2.1 else J.2.2.2.2.2.2.1 - 1)) && (J.2.2.2.2.2.2.2.1 || decide (0 < J.2.2.2.2.2.2.1))
def pm_okm (y : Nat) : Bool := match pm_sig[y]?, pm_cod[y]? with
  | some S, some rs => rs.all (pm_okr S) && (decide (y = m_L_law) || pm_oks S)
  | _, _ => false
set_option maxRecDepth 100000 in
theorem pm_ok_0 : (List.range' 0 13).all pm_okm = true := by decide +kernel
set_option maxRecDepth 100000 in
theorem pm_ok_13 : (List.range' 13 7).all pm_okm = true := by decide +kernel
set_option maxRecDepth 100000 in
theorem pm_ok_20 : (List.range' 20 6).all pm_okm = true := by decide +kernel
set_option maxRecDepth 100000 in
theorem pm_ok_26 : (List.range' 26 13).all pm_okm = true := by decide +kernel
set_option maxRecDepth 100000 in
theorem pm_ok_39 : (List.range' 39 14).all pm_okm = true := by decide +kernel
set_option maxRecDepth 100000 in
theorem pm_ok_53 : (List.range' 53 4).all pm_okm = true := by decide +kernel
set_option maxRecDepth 100000 in
theorem pm_ok_57 : (List.range' 57 6).all pm_okm = true := by decide +kernel
set_option maxRecDepth 100000 in
theorem pm_ok_63 : (List.range' 63 7).all pm_okm = true := by decide +kernel
set_option maxRecDepth 100000 in
theorem pm_ok_70 : (List.range' 70 8).all pm_okm = true := by decide +kernel
set_option maxRecDepth 100000 in
theorem pm_ok_78 : (List.range' 78 5).all pm_okm = true := by decide +kernel
set_option maxRecDepth 100000 in
theorem pm_ok_83 : (List.range' 83 5).all pm_okm = true := by decide +kernel
set_option maxRecDepth 100000 in
theorem pm_ok_88 : (List.range' 88 2).all pm_okm = true := by decide +kernel
set_option maxRecDepth 100000 in
theorem pm_ok_90 : (List.range' 90 2).all pm_okm = true := by decide +kernel
set_option maxRecDepth 100000 in
theorem pm_ok_92 : (List.range' 92 17).all pm_okm = true := by decide +kernel
set_option maxRecDepth 100000 in
theorem pm_ok_109 : (List.range' 109 4).all pm_okm = true := by decide +kernel
set_option maxRecDepth 100000 in
theorem pm_ok_113 : (List.range' 113 5).all pm_okm = true := by decide +kernel
set_option maxRecDepth 100000 in
theorem pm_ok_118 : (List.range' 118 6).all pm_okm = true := by decide +kernel
set_option maxRecDepth 100000 in
theorem pm_ok_124 : (List.range' 124 8).all pm_okm = true := by decide +kernel
set_option maxRecDepth 100000 in
theorem pm_ok_132 : (List.range' 132 3).all pm_okm = true := by decide +kernel
set_option maxRecDepth 100000 in
theorem pm_ok_135 : (List.range' 135 6).all pm_okm = true := by decide +kernel
set_option maxRecDepth 100000 in
theorem pm_ok_141 : (List.range' 141 6).all pm_okm = true := by decide +kernel
set_option maxRecDepth 100000 in
theorem pm_ok_147 : (List.range' 147 3).all pm_okm = true := by decide +kernel
set_option maxRecDepth 100000 in
theorem pm_ok_150 : (List.range' 150 6).all pm_okm = true := by decide +kernel
set_option maxRecDepth 100000 in
theorem pm_ok_156 : (List.range' 156 3).all pm_okm = true := by decide +kernel
set_option maxRecDepth 100000 in
theorem pm_ok_159 : (List.range' 159 3).all pm_okm = true := by decide +kernel
set_option maxRecDepth 100000 in
theorem pm_ok_162 : (List.range' 162 1).all pm_okm = true := by decide +kernel
set_option maxRecDepth 100000 in
theorem pm_ok_163 : (List.range' 163 5).all pm_okm = true := by decide +kernel
set_option maxRecDepth 100000 in
theorem pm_ok_168 : (List.range' 168 1).all pm_okm = true := by decide +kernel
theorem pm_ok_all {y : Nat} (h : y < 169) : pm_okm y = true := by
  have key : ∀ {s n : Nat}, (List.range' s n).all pm_okm = true → s ≤ y → y < s + n → pm_okm y = true := fun h1 h2 h3 => List.all_eq_true.mp h1 y (List.mem_range'_1.mpr ⟨h2, h3⟩)
  by_cases h_0 : y < 13
  · exact key pm_ok_0 (by omega) (by omega)
  by_cases h_13 : y < 20
  · exact key pm_ok_13 (by omega) (by omega)
  by_cases h_20 : y < 26
  · exact key pm_ok_20 (by omega) (by omega)
  by_cases h_26 : y < 39
  · exact key pm_ok_26 (by omega) (by omega)
  by_cases h_39 : y < 53
  · exact key pm_ok_39 (by omega) (by omega)
  by_cases h_53 : y < 57
  · exact key pm_ok_53 (by omega) (by omega)
  by_cases h_57 : y < 63
  · exact key pm_ok_57 (by omega) (by omega)
  by_cases h_63 : y < 70
  · exact key pm_ok_63 (by omega) (by omega)
  by_cases h_70 : y < 78
  · exact key pm_ok_70 (by omega) (by omega)
  by_cases h_78 : y < 83
  · exact key pm_ok_78 (by omega) (by omega)
  by_cases h_83 : y < 88
  · exact key pm_ok_83 (by omega) (by omega)
  by_cases h_88 : y < 90
  · exact key pm_ok_88 (by omega) (by omega)
  by_cases h_90 : y < 92
  · exact key pm_ok_90 (by omega) (by omega)
  by_cases h_92 : y < 109
  · exact key pm_ok_92 (by omega) (by omega)
  by_cases h_109 : y < 113
  · exact key pm_ok_109 (by omega) (by omega)
  by_cases h_113 : y < 118
  · exact key pm_ok_113 (by omega) (by omega)
  by_cases h_118 : y < 124
  · exact key pm_ok_118 (by omega) (by omega)
  by_cases h_124 : y < 132
  · exact key pm_ok_124 (by omega) (by omega)
  by_cases h_132 : y < 135
  · exact key pm_ok_132 (by omega) (by omega)
  by_cases h_135 : y < 141
  · exact key pm_ok_135 (by omega) (by omega)
  by_cases h_141 : y < 147
  · exact key pm_ok_141 (by omega) (by omega)
  by_cases h_147 : y < 150
  · exact key pm_ok_147 (by omega) (by omega)
  by_cases h_150 : y < 156
  · exact key pm_ok_150 (by omega) (by omega)
  by_cases h_156 : y < 159
  · exact key pm_ok_156 (by omega) (by omega)
  by_cases h_159 : y < 162
  · exact key pm_ok_159 (by omega) (by omega)
  by_cases h_162 : y < 163
  · exact key pm_ok_162 (by omega) (by omega)
  by_cases h_163 : y < 168
  · exact key pm_ok_163 (by omega) (by omega)
  by_cases h_168 : y < 169
  · exact key pm_ok_168 (by omega) (by omega)
  omega
theorem pm_sig_len : pm_sig.length = 169 := by decide +kernel
theorem pm_cod_len : pm_cod.length = 169 := by decide +kernel
theorem pm_ok_row {y : Nat} {S : pm_S} {rs : List pm_R} (h1 : pm_sig[y]? = some S) (h2 : pm_cod[y]? = some rs) : ∀ r ∈ rs, pm_okr S r = true := by
  have hy : y < pm_sig.length := (List.getElem?_eq_some_iff.mp h1).1
  rw [pm_sig_len] at hy
  have h := pm_ok_all hy
  unfold pm_okm at h
  rw [h1, h2] at h
  simp only [Bool.and_eq_true] at h
  exact List.all_eq_true.mp h.1
theorem pm_ok_sig {y : Nat} {S : pm_S} (h1 : pm_sig[y]? = some S) (hn : y ≠ m_L_law) : pm_oks S = true := by
  have hy : y < pm_sig.length := (List.getElem?_eq_some_iff.mp h1).1
  have hy2 : y < pm_cod.length := by rw [pm_cod_len]; rw [pm_sig_len] at hy; exact hy
  rw [pm_sig_len] at hy
  have h := pm_ok_all hy
  unfold pm_okm at h
  rw [h1, List.getElem?_eq_getElem hy2] at h
  simp only [Bool.and_eq_true, Bool.or_eq_true, decide_eq_true_eq] at h
  exact h.2.resolve_left hn
theorem pm_tbl_good : lw_tbl.all goodWord = true := by decide +kernel
theorem pm_in_0 : ∀ w ∈ u_ws RX0 TX0 4, w ∈ lw_tbl := by decide +kernel
theorem pm_in_1 : ∀ w ∈ u_ws RX1 TX1 6, w ∈ lw_tbl := by decide +kernel
theorem pm_in_2 : ∀ w ∈ u_ws RX2 TX2 1, w ∈ lw_tbl := by decide +kernel
theorem pm_in_3 : ∀ w ∈ u_ws RX3 TX3 3, w ∈ lw_tbl := by decide +kernel
theorem pm_in_4 : ∀ w ∈ u_ws RX4 TX4 3, w ∈ lw_tbl := by decide +kernel
theorem pm_in_5 : ∀ w ∈ u_ws RX5 TX5 3, w ∈ lw_tbl := by decide +kernel
theorem pm_in_6 : ∀ w ∈ u_ws RX6 TX6 3, w ∈ lw_tbl := by decide +kernel
theorem pm_in_7 : ∀ w ∈ u_ws RX7 TX7 12, w ∈ lw_tbl := by decide +kernel
theorem pm_in_8 : ∀ w ∈ u_ws RX8 TX8 3, w ∈ lw_tbl := by decide +kernel
theorem pm_in_9 : ∀ w ∈ u_ws RX9 TX9 11, w ∈ lw_tbl := by decide +kernel
theorem pm_in_10 : ∀ w ∈ u_ws RX10 TX10 20, w ∈ lw_tbl := by decide +kernel
def pm_ty : Nat → Nat → FieldType := fun c => match c with
  | 0 => tyX0
  | 1 => tyX1
  | 2 => tyX2
  | 3 => tyX3
  | 4 => tyX4
  | 5 => tyX5
  | 6 => tyX6
  | 7 => tyX7
  | 8 => tyX8
  | 9 => tyX9
  | _ => tyX10
theorem pm_cls {a : Nat} {q : vw_C} (h : classes[a]? = some q) : (∀ w ∈ u_ws q.1 q.2.1 q.2.2, w ∈ lw_tbl) ∧ (∀ k, k < q.2.2 → parseFieldDescriptor (q.2.1 k).2.2.1 = some (pm_ty a k)) ∧ (∀ i, i < q.2.2 → ∀ j, j < q.2.2 → i ≠ j → (q.2.1 i).2.1 ≠ (q.2.1 j).2.1) := by
  match a, h with
  | 0, h => obtain rfl := Option.some.inj h; exact ⟨pm_in_0, tyX0_ok, nmX0⟩
  | 1, h => obtain rfl := Option.some.inj h; exact ⟨pm_in_1, tyX1_ok, nmX1⟩
  | 2, h => obtain rfl := Option.some.inj h; exact ⟨pm_in_2, tyX2_ok, nmX2⟩
  | 3, h => obtain rfl := Option.some.inj h; exact ⟨pm_in_3, tyX3_ok, nmX3⟩
  | 4, h => obtain rfl := Option.some.inj h; exact ⟨pm_in_4, tyX4_ok, nmX4⟩
  | 5, h => obtain rfl := Option.some.inj h; exact ⟨pm_in_5, tyX5_ok, nmX5⟩
  | 6, h => obtain rfl := Option.some.inj h; exact ⟨pm_in_6, tyX6_ok, nmX6⟩
  | 7, h => obtain rfl := Option.some.inj h; exact ⟨pm_in_7, tyX7_ok, nmX7⟩
  | 8, h => obtain rfl := Option.some.inj h; exact ⟨pm_in_8, tyX8_ok, nmX8⟩
  | 9, h => obtain rfl := Option.some.inj h; exact ⟨pm_in_9, tyX9_ok, nmX9⟩
  | 10, h => obtain rfl := Option.some.inj h; exact ⟨pm_in_10, tyX10_ok, nmX10⟩
  | k + 11, h => simp [classes] at h
