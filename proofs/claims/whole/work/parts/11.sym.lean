/-! rules for a cell whose tag is a variable: the four sheets, rows handed over -/
def pm_isSh (t : Nat) : Prop := t = 24 ∨ t = 26 ∨ t = 28 ∨ t = 30
theorem pm_shl {t : Nat} (h : pm_isSh t) : pm_lay[t]? = some (.inr (.inr (6, [some (t + 1), none, none]))) := by
  rcases h with rfl | rfl | rfl | rfl <;> rfl
theorem pm_shi {t : Nat} (h : pm_isSh t) : pm_lay[t + 1]? = some (.inl 60) := by
  rcases h with rfl | rfl | rfl | rfl <;> rfl
theorem pm_inb_4 {i : Int32} (h : pm_inb i 4 = true) : i.toNatClampNeg = 0 ∨ i.toNatClampNeg = 1 ∨ i.toNatClampNeg = 2 ∨ i.toNatClampNeg = 3 := by
  simp only [pm_inb, Bool.and_eq_true, decide_eq_true_eq] at h
  omega
theorem pm_shN {i : Int32} (h : pm_inb i 4 = true) : pm_isSh (24 + 2 * i.toNatClampNeg) := by
  rcases pm_inb_4 h with e | e | e | e <;> rw [e]
  · exact Or.inl rfl
  · exact Or.inr (Or.inl rfl)
  · exact Or.inr (Or.inr (Or.inl rfl))
  · exact Or.inr (Or.inr (Or.inr rfl))
/-- may so many items be copied between rows of such lengths? -/
def pm_cpOk (sp dp n : Int32) (n0 n1 : Nat) : Bool := !(decide (sp < 0)) && !(decide (dp < 0)) && !(decide (n < 0)) && decide (sp.toNatClampNeg + n.toNatClampNeg ≤ n0) && decide (dp.toNatClampNeg + n.toNatClampNeg ≤ n1)
section PSYM
variable {ro : pm_RO} {y : Nat} {S : pm_S} {rs : List pm_R} {pc : Nat} {ls rest : List Value} {mem : pm_M} {Q : Option Value → pm_M → Prop} {i a b c pl t : Nat} {w : Int32} {w2 : Int64} {sl : List (Option Nat)}
theorem ex_getS (h1 : pm_sig[y]? = some S) (h2 : pm_cod[y]? = some rs) (hr : pm_row rs pc = some (pc, .getfield i, a, b, c, pl, w, w2)) (hl : pm_lay[t]? = some (.inr (.inr (a, sl)))) (hb : sl[b]? = some none) (k : pm_Ex ro y (pc + 3) ls (.int (mem t b) :: rest) mem Q) : pm_Ex ro y pc ls (.ref t :: rest) mem Q := by
  refine ex_one h1 h2 ?_ k
  unfold pm_one
  rw [hr]
  show pm_getf a b (pc + 3) ls (.ref t :: rest) mem = _
  simp only [pm_getf, hl, hb, Nat.beq_refl, cond_true]
theorem ex_getSr (h1 : pm_sig[y]? = some S) (h2 : pm_cod[y]? = some rs) (hr : pm_row rs pc = some (pc, .getfield i, a, b, c, pl, w, w2)) (hl : pm_lay[t]? = some (.inr (.inr (a, sl)))) {q : Nat} (hb : sl[b]? = some (some q)) (k : pm_Ex ro y (pc + 3) ls (.ref q :: rest) mem Q) : pm_Ex ro y pc ls (.ref t :: rest) mem Q := by
  refine ex_one h1 h2 ?_ k
  unfold pm_one
  rw [hr]
  show pm_getf a b (pc + 3) ls (.ref t :: rest) mem = _
  simp only [pm_getf, hl, hb, Nat.beq_refl, cond_true]
theorem ex_putS (h1 : pm_sig[y]? = some S) (h2 : pm_cod[y]? = some rs) (hr : pm_row rs pc = some (pc, .putfield i, a, b, 0, pl, w, w2)) (hl : pm_lay[t]? = some (.inr (.inr (a, sl)))) (hb : sl[b]? = some none) {x : Int32} (k : pm_Ex ro y (pc + 3) ls rest (pm_up mem t b x) Q) : pm_Ex ro y pc ls (.int x :: .ref t :: rest) mem Q := by
  refine ex_one h1 h2 ?_ k
  unfold pm_one
  rw [hr]
  show pm_putf a b 0 (pc + 3) ls (.int x :: .ref t :: rest) mem = _
  simp [pm_putf, hl, hb]
theorem ex_aldS (h1 : pm_sig[y]? = some S) (h2 : pm_cod[y]? = some rs) (hr : pm_row rs pc = some (pc, .iaload, a, b, c, pl, w, w2)) {n : Nat} (hl : pm_lay[t]? = some (.inl n)) {j : Int32} (hj : pm_inb j n = true) (k : pm_Ex ro y (pc + 1) ls (.int (mem t j.toNatClampNeg) :: rest) mem Q) : pm_Ex ro y pc ls (.int j :: .ref t :: rest) mem Q := by
  refine ex_one h1 h2 ?_ k
  unfold pm_one
  rw [hr]
  show pm_ald ro (pc + 1) ls (.int j :: .ref t :: rest) mem = _
  simp only [pm_ald, hl, hj, cond_true]
theorem ex_astS (h1 : pm_sig[y]? = some S) (h2 : pm_cod[y]? = some rs) (hr : pm_row rs pc = some (pc, .iastore, a, b, c, pl, w, w2)) {n : Nat} (hl : pm_lay[t]? = some (.inl n)) {j x : Int32} (hj : pm_inb j n = true) (k : pm_Ex ro y (pc + 1) ls rest (pm_up mem t j.toNatClampNeg x) Q) : pm_Ex ro y pc ls (.int x :: .int j :: .ref t :: rest) mem Q := by
  refine ex_one h1 h2 ?_ k
  unfold pm_one
  rw [hr]
  show pm_ast (pc + 1) ls (.int x :: .int j :: .ref t :: rest) mem = _
  simp only [pm_ast, hl, hj, cond_true]
theorem ex_aldR (h1 : pm_sig[y]? = some S) (h2 : pm_cod[y]? = some rs) (hr : pm_row rs pc = some (pc, .iaload, a, b, c, pl, w, w2)) {n : Nat} {f : Nat → Int32} (hl : pm_lay[t]? = none) (hro : ro t = some (n, f)) {j : Int32} (hj : pm_inb j n = true) (k : pm_Ex ro y (pc + 1) ls (.int (f j.toNatClampNeg) :: rest) mem Q) : pm_Ex ro y pc ls (.int j :: .ref t :: rest) mem Q := by
  refine ex_one h1 h2 ?_ k
  unfold pm_one
  rw [hr]
  show pm_ald ro (pc + 1) ls (.int j :: .ref t :: rest) mem = _
  simp only [pm_ald, hl, hro, hj, cond_true]
theorem ex_alnR (h1 : pm_sig[y]? = some S) (h2 : pm_cod[y]? = some rs) (hr : pm_row rs pc = some (pc, .arraylength, a, b, c, pl, w, w2)) {n : Nat} {f : Nat → Int32} (hl : pm_lay[t]? = none) (hro : ro t = some (n, f)) (k : pm_Ex ro y (pc + 1) ls (.int (Int32.ofNat n) :: rest) mem Q) : pm_Ex ro y pc ls (.ref t :: rest) mem Q := by
  refine ex_one h1 h2 ?_ k
  unfold pm_one
  rw [hr]
  show pm_aln ro (pc + 1) ls (.ref t :: rest) mem = _
  simp only [pm_aln, hl, hro]
theorem ex_alnS (h1 : pm_sig[y]? = some S) (h2 : pm_cod[y]? = some rs) (hr : pm_row rs pc = some (pc, .arraylength, a, b, c, pl, w, w2)) {n : Nat} (hl : pm_lay[t]? = some (.inl n)) (k : pm_Ex ro y (pc + 1) ls (.int (Int32.ofNat n) :: rest) mem Q) : pm_Ex ro y pc ls (.ref t :: rest) mem Q := by
  refine ex_one h1 h2 ?_ k
  unfold pm_one
  rw [hr]
  show pm_aln ro (pc + 1) ls (.ref t :: rest) mem = _
  simp only [pm_aln, hl]
theorem ex_aalS (h1 : pm_sig[y]? = some S) (h2 : pm_cod[y]? = some rs) (hr : pm_row rs pc = some (pc, .aaload, a, b, c, pl, w, w2)) {j : Int32} (hj : pm_inb j 4 = true) (k : pm_Ex ro y (pc + 1) ls (.ref (24 + 2 * j.toNatClampNeg) :: rest) mem Q) : pm_Ex ro y pc ls (.int j :: .ref 23 :: rest) mem Q := by
  refine ex_one h1 h2 ?_ k
  unfold pm_one
  rw [hr]
  show pm_aal (pc + 1) ls (.int j :: .ref 23 :: rest) mem = _
  have e : pm_lay[23]? = some (.inr (.inl [24, 26, 28, 30])) := rfl
  simp only [pm_aal, e, List.length_cons, List.length_nil, hj, cond_true]
  rcases pm_inb_4 hj with e | e | e | e <;> rw [e] <;> rfl
theorem pm_calS {r : pm_R} {st As : List Value} {J : pm_S} (hi : r.2.1 = .invokevirtual i) (hs : pm_sig[r.2.2.1]? = some J) (ht : (st.take r.2.2.2.1).reverse = .ref t :: As) (hl : pm_lay[t]? = some (.inr (.inr (r.2.2.2.2.1, sl)))) : pm_cal r st = some (r.2.2.1, J, .ref t :: As, st.drop r.2.2.2.1) := by
  unfold pm_cal
  rw [hi]
  simp only [hs, ht, hl, Nat.beq_refl, cond_true]
theorem ex_cpyS (h1 : pm_sig[y]? = some S) (h2 : pm_cod[y]? = some rs) (hr : pm_row rs pc = some (pc, .invokestatic i, a, b, 2, pl, w, w2)) (hf : (Nat.ble 1 S.2.2.2.2.1 && Nat.ble 26 S.2.2.2.2.2.1) = true) {t0 t1 n0 n1 : Nat} (hl0 : pm_lay[t0]? = some (.inl n0)) (hl1 : pm_lay[t1]? = some (.inl n1)) {sp dp n : Int32} (hrest : decide ((rest.map fun v => v.category).sum ≤ 8) = true) (hg : pm_cpOk sp dp n n0 n1 = true) (k : pm_Ex ro y (pc + 3) ls rest (pm_upR mem t1 (va_cpy (mem t0) (mem t1) sp.toNatClampNeg dp.toNatClampNeg n.toNatClampNeg)) Q) : pm_Ex ro y pc ls (.int n :: .int dp :: .ref t1 :: .int sp :: .ref t0 :: rest) mem Q := by
  refine ex_spc h1 h2 hr rfl rfl ?_ hf k
  show pm_cpy (pc + 3) ls (.int n :: .int dp :: .ref t1 :: .int sp :: .ref t0 :: rest) mem = _
  unfold pm_cpOk at hg
  unfold pm_cpy
  simp only [hl0, hl1, hg, hrest, Bool.and_true, cond_true]
end PSYM
