/-! small things for the printed blocks -/
def zb (P : Prop) [Decidable P] : Int32 := if P then 1 else 0
theorem zb_pos {P : Prop} [Decidable P] (h : P) : zb P = 1 := if_pos h
theorem zb_neg {P : Prop} [Decidable P] (h : ¬ P) : zb P = 0 := if_neg h
theorem zb_npos {P : Prop} [Decidable P] (h : P) : zb (¬ P) = 0 := if_neg (not_not_intro h)
theorem zb_nneg {P : Prop} [Decidable P] (h : ¬ P) : zb (¬ P) = 1 := if_pos h
theorem zb0 {P : Prop} [Decidable P] (h : zb P = 0) : ¬ P := fun q => by rw [zb_pos q] at h; exact absurd h (by decide)
theorem zb1 {P : Prop} [Decidable P] (h : ¬ zb P = 0) : P := by
  by_cases q : P
  · exact q
  · exact absurd (zb_neg q) h
theorem zb0n {P : Prop} [Decidable P] (h : ¬ ¬ zb P = 0) : ¬ P := zb0 (Decidable.of_not_not h)
theorem zb_01 (P : Prop) [Decidable P] : zb P = 0 ∨ zb P = 1 := by
  by_cases q : P
  · exact Or.inr (zb_pos q)
  · exact Or.inl (zb_neg q)
theorem zb_iff {P R : Prop} [Decidable P] [Decidable R] (h : P ↔ R) : zb P = zb R := by
  by_cases q : P
  · rw [zb_pos q, zb_pos (h.mp q)]
  · rw [zb_neg q, zb_neg (fun z => q (h.mpr z))]
theorem zbA_t {P Z : Prop} [Decidable P] [Decidable Z] (h : P) : zb (P ∧ Z) = zb Z := zb_iff ⟨fun q => q.2, fun q => ⟨h, q⟩⟩
theorem zbA_f {P Z : Prop} [Decidable P] [Decidable Z] (h : ¬ P) : zb (P ∧ Z) = 0 := zb_neg (fun q => h q.1)
theorem zbN_t {P Z : Prop} [Decidable P] [Decidable Z] (h : P) : zb (¬ P ∧ Z) = 0 := zb_neg (fun q => q.1 h)
theorem zbN_f {P Z : Prop} [Decidable P] [Decidable Z] (h : ¬ P) : zb (¬ P ∧ Z) = zb Z := zb_iff ⟨fun q => q.2, fun q => ⟨h, q⟩⟩
theorem zbO_t {P Z : Prop} [Decidable P] [Decidable Z] (h : P) : zb (P ∨ Z) = 1 := zb_pos (Or.inl h)
theorem zbO_f {P Z : Prop} [Decidable P] [Decidable Z] (h : ¬ P) : zb (P ∨ Z) = zb Z := zb_iff ⟨fun q => q.resolve_left h, Or.inr⟩
theorem zbI_t {P Z : Prop} [Decidable P] [Decidable Z] (h : P) : zb (¬ P ∨ Z) = zb Z := zb_iff ⟨fun q => q.resolve_left (not_not_intro h), Or.inr⟩
theorem zbI_f {P Z : Prop} [Decidable P] [Decidable Z] (h : ¬ P) : zb (¬ P ∨ Z) = 1 := zb_pos (Or.inl h)
theorem pm_nz {y : Int32} (h : ¬ y = 0) : (!(decide (y = 0))) = true := by simp [h]
theorem pm_nzl {y : Int64} (h : ¬ y = 0) : (!(decide (y = 0))) = true := by simp [h]
theorem pm_phi1 {f : Int32 → Prop} {a b : Int32} (e : a = b) (k : f a) : f b := e ▸ k
theorem pm_phi2 {f : Int32 → Int32 → Prop} {a b a' b' : Int32} (e : a = b) (e' : a' = b') (k : f a a') : f b b' := by subst e; subst e'; exact k
theorem pm_phi3 {f : Int32 → Int32 → Int32 → Prop} {a b a' b' a2 b2 : Int32} (e : a = b) (e' : a' = b') (e2 : a2 = b2) (k : f a a' a2) : f b b' b2 := by subst e; subst e'; subst e2; exact k
theorem pm_phi4 {f : Int32 → Int32 → Int32 → Int32 → Prop} {a b a' b' a2 b2 a3 b3 : Int32} (e : a = b) (e' : a' = b') (e2 : a2 = b2) (e3 : a3 = b3) (k : f a a' a2 a3) : f b b' b2 b3 := by subst e; subst e'; subst e2; subst e3; exact k
section PSW
variable {ro : pm_RO} {y : Nat} {S : pm_S} {rs : List pm_R} {pc : Nat} {ls rest : List Value} {mem : pm_M} {Q : Option Value → pm_M → Prop}
theorem ex_tswd (h1 : pm_sig[y]? = some S) (h2 : pm_cod[y]? = some rs) {dflt lo hi : Int} {offs : Array Int} {a0 b c pl : Nat} {w : Int32} {w2 : Int64} {x : Int32} (hr : pm_row rs pc = some (pc, .tableswitch dflt lo hi offs, a0, b, c, pl, w, w2)) {a : Nat} (ht : (pc : Int) + dflt = (a : Int)) (h : x.toInt < lo ∨ hi < x.toInt) (k : pm_Ex ro y a ls rest mem Q) : pm_Ex ro y pc ls (.int x :: rest) mem Q := by
  refine ex_one (pc' := a) (ls' := ls) (st' := rest) (mem' := mem) h1 h2 ?_ k
  unfold pm_one
  rw [hr]
  show pm_tsw pc dflt lo hi offs ls (.int x :: rest) mem = _
  unfold pm_tsw
  have e1 : (decide (x.toInt < lo) || decide (hi < x.toInt)) = true := by simpa using h
  simp only [e1, cond_true, pm_tgt, ht]
  simp
theorem ex_lswd (h1 : pm_sig[y]? = some S) (h2 : pm_cod[y]? = some rs) {dflt : Int} {ps : Array (Int × Int)} {a0 b c pl : Nat} {w : Int32} {w2 : Int64} {x : Int32} (hr : pm_row rs pc = some (pc, .lookupswitch dflt ps, a0, b, c, pl, w, w2)) (hs : (ps.toList.zip (ps.toList.drop 1)).all (fun (a, next) => a.1 < next.1) = true) {a : Nat} (ht : (pc : Int) + dflt = (a : Int)) (h : Op.lookupswitch.offset ps.toList dflt x.toInt = dflt) (k : pm_Ex ro y a ls rest mem Q) : pm_Ex ro y pc ls (.int x :: rest) mem Q := by
  refine ex_one (pc' := a) (ls' := ls) (st' := rest) (mem' := mem) h1 h2 ?_ k
  unfold pm_one
  rw [hr]
  show pm_lsw pc dflt ps ls (.int x :: rest) mem = _
  unfold pm_lsw
  simp only [hs, cond_true, pm_tgt, h, ht]
  simp
end PSW
theorem pm_out3 {x : Int32} (h0 : ¬ x = 0) (h1 : ¬ x = 1) (h2 : ¬ x = 2) : x.toInt < 0 ∨ 2 < x.toInt := by
  have g0 := lv_neT (a := 0) h0 (by decide)
  have g1 := lv_neT (a := 1) h1 (by decide)
  have g2 := lv_neT (a := 2) h2 (by decide)
  omega
theorem pm_out4 {x : Int32} (h0 : ¬ x = 0) (h1 : ¬ x = 1) (h2 : ¬ x = 2) (h3 : ¬ x = 3) : x.toInt < 0 ∨ 3 < x.toInt := by
  have g0 := lv_neT (a := 0) h0 (by decide)
  have g1 := lv_neT (a := 1) h1 (by decide)
  have g2 := lv_neT (a := 2) h2 (by decide)
  have g3 := lv_neT (a := 3) h3 (by decide)
  omega
theorem pm_out9 {x : Int32} (h0 : ¬ x = 0) (h1 : ¬ x = 1) (h2 : ¬ x = 2) (h3 : ¬ x = 3) (h4 : ¬ x = 4) (h5 : ¬ x = 5) (h6 : ¬ x = 6) (h7 : ¬ x = 7) (h8 : ¬ x = 8) : x.toInt < 0 ∨ 8 < x.toInt := by
  have g0 := lv_neT (a := 0) h0 (by decide)
  have g1 := lv_neT (a := 1) h1 (by decide)
  have g2 := lv_neT (a := 2) h2 (by decide)
  have g3 := lv_neT (a := 3) h3 (by decide)
  have g4 := lv_neT (a := 4) h4 (by decide)
  have g5 := lv_neT (a := 5) h5 (by decide)
  have g6 := lv_neT (a := 6) h6 (by decide)
  have g7 := lv_neT (a := 7) h7 (by decide)
  have g8 := lv_neT (a := 8) h8 (by decide)
  omega
theorem pm_out27 {x : Int32} (h0 : ¬ x = 0) (h1 : ¬ x = 1) (h2 : ¬ x = 2) (h3 : ¬ x = 3) (h4 : ¬ x = 4) (h5 : ¬ x = 5) (h6 : ¬ x = 6) (h7 : ¬ x = 7) (h8 : ¬ x = 8) (h9 : ¬ x = 9) (h10 : ¬ x = 10) (h11 : ¬ x = 11) (h12 : ¬ x = 12) (h13 : ¬ x = 13) (h14 : ¬ x = 14) (h15 : ¬ x = 15) (h16 : ¬ x = 16) (h17 : ¬ x = 17) (h18 : ¬ x = 18) (h19 : ¬ x = 19) (h20 : ¬ x = 20) (h21 : ¬ x = 21) (h22 : ¬ x = 22) (h23 : ¬ x = 23) (h24 : ¬ x = 24) (h25 : ¬ x = 25) (h26 : ¬ x = 26) : x.toInt < 0 ∨ 26 < x.toInt := by
  have g0 := lv_neT (a := 0) h0 (by decide)
  have g1 := lv_neT (a := 1) h1 (by decide)
  have g2 := lv_neT (a := 2) h2 (by decide)
  have g3 := lv_neT (a := 3) h3 (by decide)
  have g4 := lv_neT (a := 4) h4 (by decide)
  have g5 := lv_neT (a := 5) h5 (by decide)
  have g6 := lv_neT (a := 6) h6 (by decide)
  have g7 := lv_neT (a := 7) h7 (by decide)
  have g8 := lv_neT (a := 8) h8 (by decide)
  have g9 := lv_neT (a := 9) h9 (by decide)
  have g10 := lv_neT (a := 10) h10 (by decide)
  have g11 := lv_neT (a := 11) h11 (by decide)
  have g12 := lv_neT (a := 12) h12 (by decide)
  have g13 := lv_neT (a := 13) h13 (by decide)
  have g14 := lv_neT (a := 14) h14 (by decide)
  have g15 := lv_neT (a := 15) h15 (by decide)
  have g16 := lv_neT (a := 16) h16 (by decide)
  have g17 := lv_neT (a := 17) h17 (by decide)
  have g18 := lv_neT (a := 18) h18 (by decide)
  have g19 := lv_neT (a := 19) h19 (by decide)
  have g20 := lv_neT (a := 20) h20 (by decide)
  have g21 := lv_neT (a := 21) h21 (by decide)
  have g22 := lv_neT (a := 22) h22 (by decide)
  have g23 := lv_neT (a := 23) h23 (by decide)
  have g24 := lv_neT (a := 24) h24 (by decide)
  have g25 := lv_neT (a := 25) h25 (by decide)
  have g26 := lv_neT (a := 26) h26 (by decide)
  omega
theorem i64_le {a b : Int32} : a.toInt64 ≤ b.toInt64 ↔ a ≤ b := by
  rw [Int64.le_iff_toInt_le, Int32.le_iff_toInt_le, Int32.toInt_toInt64, Int32.toInt_toInt64]
theorem i64_lt {a b : Int32} : a.toInt64 < b.toInt64 ↔ a < b := by
  rw [Int64.lt_iff_toInt_lt, Int32.lt_iff_toInt_lt, Int32.toInt_toInt64, Int32.toInt_toInt64]
