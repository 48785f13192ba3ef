/-! figures, the object's side -/
def sdN (q n : Nat) : Nat := if q = n then 0 else if n ≤ q then 2 else 1
theorem sdN_lt (q n : Nat) : sdN q n < 3 := by
  unfold sdN
  by_cases h : q = n
  · rw [if_pos h]; decide
  · rw [if_neg h]
    by_cases h2 : n ≤ q
    · rw [if_pos h2]; decide
    · rw [if_neg h2]; decide
theorem sid {q n : Nat} (hq : q < 2 ^ 31) (hn : n < 2 ^ 31) : (if ¬ nI q = nI n then (if nI n ≤ nI q then 2 else 1 : Int32) else 0 : Int32) = nI (sdN q n) := by
  unfold sdN
  by_cases h : q = n
  · rw [if_neg (not_not_intro ((nI_eq hq hn).mpr h)), if_pos h]; rfl
  · rw [if_pos (fun z => h ((nI_eq hq hn).mp z)), if_neg h]
    by_cases h2 : n ≤ q
    · rw [if_pos ((nI_leI hn hq).mpr h2), if_pos h2]; rfl
    · rw [if_neg (fun z => h2 ((nI_leI hn hq).mp z)), if_neg h2]; rfl
theorem fgN_sd (b z n : Nat) {j : Nat} (hj : j < 3) : fgN b z j n = if sdN (paidN b z n) n = j then 1 else 0 := by
  unfold fgN sdN
  generalize paidN b z n = q
  rcases (show j = 0 ∨ j = 1 ∨ j = 2 by omega) with rfl | rfl | rfl <;> by_cases h : q = n <;> by_cases h2 : n ≤ q <;> simp [h, h2] <;> omega
theorem amtD {b z n : Nat} (hq : paidN b z n < 2 ^ 30) (hn : n < 2 ^ 30) : (if 0 ≤ (nI (paidN b z n) - nI n) then nI (paidN b z n) - nI n else 0 - (nI (paidN b z n) - nI n) : Int32) = nI (dN b z n) := by
  have e : (0 : Int32) - (nI (paidN b z n) - nI n) = -(nI (paidN b z n) - nI n) := Int32.zero_sub _
  rw [e]
  exact amt hq hn
/-- so far S has been looked at, and c counted -/
def FS (b z : Nat) (m0 m : pm_M) (S : Nat → Prop) (c : Nat → Nat) : Prop :=
  Fr [15, 16] m0 m ∧ m 15 2 = m0 15 2 ∧ (∀ j, j < 3 → m 16 j = nI (c j)) ∧ (((∀ q, ¬ S q) ∧ m 15 3 = -1) ∨ ∃ n, n < 50000 ∧ IsB (dN b z) S n ∧ m 16 3 = nI n ∧ m 15 3 = nI (dN b z n))
theorem FS.cg {b z : Nat} {m0 m : pm_M} {S S' : Nat → Prop} {c c' : Nat → Nat} (h : FS b z m0 m S c) (hS : ∀ q, S q ↔ S' q) (hc : ∀ j, j < 3 → c j = c' j) : FS b z m0 m S' c' := by
  have e : S = S' := funext fun q => propext (hS q)
  subst e
  exact ⟨h.1, h.2.1, fun j hj => by rw [← hc j hj]; exact h.2.2.1 j hj, h.2.2.2⟩
def RS (b M : Nat) (f q : Nat) : Prop := ∃ f', 1 ≤ f' ∧ f' < f ∧ ((∃ mid, mid < M ∧ q = f' * (M * b) + mid * b) ∨ ∃ l, 1 ≤ l ∧ l < b ∧ q = f' * (M * b) + l)
theorem dcm {b M q : Nat} (hb : 2 ≤ b) (hM0 : 0 < M) (q1 : M * b ≤ q) (q2 : q < b * (M * b)) : ∃ f mid l, 1 ≤ f ∧ f < b ∧ mid < M ∧ l < b ∧ q = f * (M * b) + mid * b + l := by
  have hU : 0 < M * b := Nat.mul_pos hM0 (by omega)
  refine ⟨q / (M * b), q % (M * b) / b, q % (M * b) % b, (Nat.le_div_iff_mul_le hU).mpr (by omega), (Nat.div_lt_iff_lt_mul hU).mpr q2, (Nat.div_lt_iff_lt_mul (by omega)).mpr (Nat.mod_lt _ hU), Nat.mod_lt _ (by omega), ?_⟩
  have h1 := Nat.div_add_mod q (M * b)
  have h2 := Nat.div_add_mod (q % (M * b)) b
  rw [Nat.mul_comm (q / (M * b)), Nat.mul_comm (q % (M * b) / b)]
  omega
theorem RS_all {b z M n : Nat} (hb : 2 ≤ b) (hM : M = 1 ∨ M = b) (h : IsB (dN b z) (RS b M b) n) : IsB (dN b z) (fun q => M * b ≤ q ∧ q < M * b + (b - 1) * (M * b)) n := by
  have hM0 : 0 < M := by omega
  have hU : 0 < M * b := Nat.mul_pos hM0 (by omega)
  have hbU : M * b + (b - 1) * (M * b) = b * (M * b) := by
    have h1 : (b - 1 + 1) * (M * b) = (b - 1) * (M * b) + M * b := Nat.succ_mul _ _
    rw [Nat.sub_add_cancel (by omega)] at h1
    omega
  obtain ⟨⟨f, f1, f2, hh⟩, hmax⟩ := h
  refine ⟨?_, fun q hq => ?_⟩
  · have a1 : 1 * (M * b) ≤ f * (M * b) := Nat.mul_le_mul_right _ f1
    have a2 : (f + 1) * (M * b) ≤ b * (M * b) := Nat.mul_le_mul_right _ f2
    rw [Nat.succ_mul] at a2
    rw [Nat.one_mul] at a1
    rw [hbU]
    rcases hh with ⟨mid, m1, rfl⟩ | ⟨l, l1, l2, rfl⟩
    · have a3 : (mid + 1) * b ≤ M * b := Nat.mul_le_mul_right _ m1
      rw [Nat.succ_mul] at a3
      exact ⟨by omega, by omega⟩
    · have a3 : 1 * b ≤ M * b := Nat.mul_le_mul_right _ hM0
      rw [Nat.one_mul] at a3
      exact ⟨by omega, by omega⟩
  · obtain ⟨q1, q2⟩ := hq
    rw [hbU] at q2
    obtain ⟨f', mid, l, g1, g2, g3, g4, eq⟩ := dcm hb hM0 q1 q2
    by_cases hl0 : l = 0
    · exact hmax q ⟨f', g1, g2, Or.inl ⟨mid, g3, by omega⟩⟩
    · have hs := (shiftM (z := z) hb hM g1 g2 g3 (show 1 ≤ l by omega) g4).1
      have := hmax (f' * (M * b) + l) ⟨f', g1, g2, Or.inr ⟨l, by omega, g4, rfl⟩⟩
      rw [← eq] at hs
      omega
theorem fgs_is {lw : Nat → Nat} {m n lo c : Nat} (h1 : lw 0 ^ (m - 1) = lo) (h2 : lw 0 ^ m - lw 0 ^ (m - 1) = c) (hc : 0 < c) (h : IsB (dN (lw 0) (lw 1)) (fun q => lo ≤ q ∧ q < lo + c) n) : ∀ j, j < 4 → fgs lw m j = if j = 3 then n else sm (fgN (lw 0) (lw 1) j) lo c := by
  intro j hj
  obtain ⟨bst, k1, k2⟩ := fgo_sp (lw 0) (lw 1) lo c lo 0 0 0 lo 0 (Nat.le_refl _) (Or.inl ⟨rfl, rfl⟩) (by omega)
  have e := h.un k1
  unfold fgs
  rw [h2, h1, k2, e]
  rcases (show j = 0 ∨ j = 1 ∨ j = 2 ∨ j = 3 by omega) with rfl | rfl | rfl | rfl <;> simp [bt4]
section FGC
variable {ro : pm_RO} {Q : Option Value → pm_M → Prop} {lw : Nat → Nat}
theorem c_take (hO : OKL lw) {m0 m : pm_M} (hL : LC m0 lw) {n a : Nat} (hn : n < 50000) {S : Nat → Prop} {c : Nat → Nat} (hF : FS (lw 0) (lw 1) m0 m S c) (k : ∀ m' : pm_M, FS (lw 0) (lw 1) m0 m' (fun r => S r ∨ r = n) (fun j => c j + a * fgN (lw 0) (lw 1) j n) → Q none m') : pm_Ex ro m_X0_take 0 [.ref 15, .int (nI n), .int (nI a), .null, .null, .null] [] m Q := by
  obtain ⟨f1, f2, f3, f4⟩ := id hF
  have hp := pdb (z := lw 1) hO.1 hO.2.1 hn
  have eP : PD lw n = paidN (lw 0) (lw 1) n := rfl
  refine bk_X0_take_0 (pdC hO (hL.fr (f1 2 (by decide))) (by omega) (bk_X0_take_8 ?_))
  rw [eP, sid (by omega) (by omega), amtD (by omega) (by omega)]
  have hs := sdN_lt (paidN (lw 0) (lw 1) n) n
  have hfg : ∀ j, j < 3 → fgN (lw 0) (lw 1) j n = if sdN (paidN (lw 0) (lw 1) n) n = j then 1 else 0 := fun j hj => fgN_sd _ _ _ hj
  have hd : dN (lw 0) (lw 1) n < 2000000 := by unfold dN; split <;> omega
  generalize sdN (paidN (lw 0) (lw 1) n) n = sd at hs hfg ⊢
  rw [nI_clamp (by omega)]
  have hcnt : ∀ m' : pm_M, (∀ j, j < 3 → m' 16 j = upd (m 16) sd (m 16 sd + nI a) j) → ∀ j, j < 3 → m' 16 j = nI (c j + a * fgN (lw 0) (lw 1) j n) := by
    intro m' h j hj
    rw [h j hj, hfg j hj]
    by_cases e : j = sd
    · subst e; rw [pk_us, f3 j hj, nI_add, if_pos rfl, Nat.mul_one]
    · rw [pk_un e, f3 j hj, if_neg (fun z => e z.symm), Nat.mul_zero, Nat.add_zero]
  have hnew : (∀ q, ¬ S q) ∨ (∃ n0, IsB (dN (lw 0) (lw 1)) S n0 ∧ (dN (lw 0) (lw 1) n0 < dN (lw 0) (lw 1) n ∨ (dN (lw 0) (lw 1) n = dN (lw 0) (lw 1) n0 ∧ n < n0))) → Q none (pm_up (pm_up (pm_up m 16 sd (m 16 sd + nI a)) 15 3 (nI (dN (lw 0) (lw 1) n))) 16 3 (nI n)) := by
    intro h
    refine k _ ⟨((f1.up (by decide) _ _).up (by decide) _ _).up (by decide) _ _, ?_, hcnt _ (fun j hj => ?_), Or.inr ⟨n, hn, ?_, up_tk _ _ _ _, ?_⟩⟩
    · rw [up_n (by decide), up_tj (by decide), up_n (by decide)]; exact f2
    · rw [up_tj (by omega), up_n (by decide), up_t]
    · rcases h with h | ⟨n0, h, h2⟩
      · refine ⟨Or.inr rfl, fun q hq => ?_⟩
        rcases hq with z | z
        · exact absurd z (h q)
        · subst z; exact Or.inr ⟨rfl, Nat.le_refl _⟩
      · have := h.st (q := n)
        rw [if_pos h2] at this
        exact this
    · rw [up_n (by decide), up_tk]
  have hold : ∀ n0, n0 < 50000 → IsB (dN (lw 0) (lw 1)) S n0 → m 16 3 = nI n0 → m 15 3 = nI (dN (lw 0) (lw 1) n0) → ¬ (dN (lw 0) (lw 1) n0 < dN (lw 0) (lw 1) n ∨ (dN (lw 0) (lw 1) n = dN (lw 0) (lw 1) n0 ∧ n < n0)) → Q none (pm_up m 16 sd (m 16 sd + nI a)) := by
    intro n0 h0 h h2 h3 h4
    refine k _ ⟨f1.up (by decide) _ _, ?_, hcnt _ (fun j hj => by rw [up_t]), Or.inr ⟨n0, h0, ?_, ?_, ?_⟩⟩
    · rw [up_n (by decide)]; exact f2
    · have := h.st (q := n)
      rw [if_neg h4] at this
      exact this
    · rw [up_tj (by omega)]; exact h2
    · rw [up_n (by decide)]; exact h3
  have hin : pm_inb (nI sd) 4 = true := nI_inb (by omega) (by decide)
  rcases f4 with ⟨g1, g2⟩ | ⟨n0, g0, g1, g2, g3⟩
  · refine ⟨hin, hin, fun _ => hnew (Or.inl g1), fun h => absurd ?_ h⟩
    rw [g2, Int32.lt_iff_toInt_lt, nI_toInt (by omega), show (-1 : Int32).toInt = -1 from rfl]
    omega
  · have hp0 := pdb (z := lw 1) hO.1 hO.2.1 g0
    have hd0 : dN (lw 0) (lw 1) n0 < 2000000 := by unfold dN; split <;> omega
    rw [g3]
    refine ⟨hin, hin, fun h => ?_, fun h => ⟨fun h2 => ?_, fun h2 => ⟨fun h3 => ?_, fun h3 => ?_⟩⟩⟩
    · rw [nI_ltI (by omega) (by omega)] at h
      exact hnew (Or.inr ⟨n0, g1, Or.inl h⟩)
    · rw [nI_ltI (by omega) (by omega)] at h
      rw [nI_eq (by omega) (by omega)] at h2
      exact hold n0 g0 g1 g2 g3 (by omega)
    · rw [nI_ltI (by omega) (by omega)] at h
      rw [up_tj (by omega), g2, nI_leI (by omega) (by omega)] at h3
      exact hold n0 g0 g1 g2 g3 (by omega)
    · have h2 := Decidable.of_not_not h2
      rw [nI_eq (by omega) (by omega)] at h2
      rw [up_tj (by omega), g2, nI_leI (by omega) (by omega)] at h3
      exact hnew (Or.inr ⟨n0, g1, Or.inr ⟨h2, by omega⟩⟩)
theorem c_ca16 (hO : OKL lw) {m0 : pm_M} (hL : LC m0 lw) {x1 : Int32} (k : ∀ m' : pm_M, FS (lw 0) (lw 1) m0 m' (fun q => 1 ≤ q ∧ q < 1 + (lw 0 - 1)) (fun j => sm (fgN (lw 0) (lw 1) j) 1 (lw 0 - 1)) → Q none m') : ∀ (c i : Nat) (m : pm_M), i + c = lw 0 - 1 → FS (lw 0) (lw 1) m0 m (fun q => 1 ≤ q ∧ q < 1 + i) (fun j => sm (fgN (lw 0) (lw 1) j) 1 i) → pm_Ex ro m_X0_countAll 16 [.ref 15, .int x1, .int (nI (lw 0)), .int (nI (1 + i)), .null, .null, .null] [] m Q := by
  have hb2 := hO.1
  have hb := hO.2.1
  intro c
  induction c with
  | zero =>
    intro i m hi hF
    have e : i = lw 0 - 1 := by omega
    subst e
    exact bk_X0_countAll_16 ⟨fun _ => k _ hF, fun q => absurd (nI_le (by omega) (by omega)) q⟩
  | succ c ih =>
    intro i m hi hF
    refine bk_X0_countAll_16 ⟨fun q => ?_, fun _ => ?_⟩
    · rw [nI_leI (by omega) (by omega)] at q; omega
    refine c_take (a := 1) hO hL (by omega) hF (fun m' hF' => bk_X0_countAll_27 ?_)
    rw [nI_1]
    refine ih (i + 1) m' (by omega) (hF'.cg (fun q => ?_) (fun j hj => ?_))
    · show ((1 ≤ q ∧ q < 1 + i) ∨ q = 1 + i) ↔ (1 ≤ q ∧ q < 1 + (i + 1))
      omega
    · show sm (fgN (lw 0) (lw 1) j) 1 i + 1 * fgN (lw 0) (lw 1) j (1 + i) = sm (fgN (lw 0) (lw 1) j) 1 (i + 1)
      rw [Nat.one_mul]
      rfl
theorem fM_lt (hO : OKL lw) {M f l : Nat} (hM : M = 1 ∨ M = lw 0) (hf : f < lw 0) (hl : l < 2000) : f * (M * lw 0) + l < 50000 := by
  have hb := hO.2.1
  have : f * (M * lw 0) ≤ 35 * (36 * 36) := Nat.mul_le_mul (by omega) (Nat.mul_le_mul (by have := hO.1; omega) hb)
  omega
theorem c_ca92 (hO : OKL lw) {m0 : pm_M} (hL : LC m0 lw) {x1 : Int32} {M f : Nat} (hM : M = 1 ∨ M = lw 0) (hf : f < lw 0) {S0 : Nat → Prop} {C0 : Nat → Nat} (k : ∀ (m' : pm_M) (d : Value), FS (lw 0) (lw 1) m0 m' (fun q => S0 q ∨ ∃ l, 1 ≤ l ∧ l < 1 + (lw 0 - 1) ∧ q = f * (M * lw 0) + l) (fun j => C0 j + sm (fun l => M * fgN (lw 0) (lw 1) j (f * (M * lw 0) + l)) 1 (lw 0 - 1)) → pm_Ex ro m_X0_countAll 53 [.ref 15, .int x1, .int (nI (lw 0)), .int (nI M), .int (nI (M * lw 0)), .int (nI (f + 1)), d] [] m' Q) :
    ∀ (c i : Nat) (m : pm_M), i + c = lw 0 - 1 → FS (lw 0) (lw 1) m0 m (fun q => S0 q ∨ ∃ l, 1 ≤ l ∧ l < 1 + i ∧ q = f * (M * lw 0) + l) (fun j => C0 j + sm (fun l => M * fgN (lw 0) (lw 1) j (f * (M * lw 0) + l)) 1 i) → pm_Ex ro m_X0_countAll 92 [.ref 15, .int x1, .int (nI (lw 0)), .int (nI M), .int (nI (M * lw 0)), .int (nI f), .int (nI (1 + i))] [] m Q := by
  have hb2 := hO.1
  have hb := hO.2.1
  intro c
  induction c with
  | zero =>
    intro i m hi hF
    have e : i = lw 0 - 1 := by omega
    subst e
    refine bk_X0_countAll_92 ⟨fun _ => ?_, fun q => absurd (nI_le (by omega) (by omega)) q⟩
    rw [nI_1]
    exact k _ _ hF
  | succ c ih =>
    intro i m hi hF
    refine bk_X0_countAll_92 ⟨fun q => ?_, fun _ => ?_⟩
    · rw [nI_leI (by omega) (by omega)] at q; omega
    rw [pk_mul, nI_add]
    refine c_take hO hL (fM_lt hO hM hf (by omega)) hF (fun m' hF' => bk_X0_countAll_111 ?_)
    rw [nI_1]
    refine ih (i + 1) m' (by omega) (hF'.cg (fun q => ⟨?_, ?_⟩) (fun j hj => ?_))
    · rintro ((h | ⟨l, h1, h2, h3⟩) | h)
      · exact Or.inl h
      · exact Or.inr ⟨l, h1, by omega, h3⟩
      · exact Or.inr ⟨1 + i, by omega, by omega, h⟩
    · rintro (h | ⟨l, h1, h2, h3⟩)
      · exact Or.inl (Or.inl h)
      · by_cases e : l = 1 + i
        · subst e; exact Or.inr h3
        · exact Or.inl (Or.inr ⟨l, h1, by omega, h3⟩)
    · show C0 j + sm (fun l => M * fgN (lw 0) (lw 1) j (f * (M * lw 0) + l)) 1 i + M * fgN (lw 0) (lw 1) j (f * (M * lw 0) + (1 + i)) = C0 j + (sm (fun l => M * fgN (lw 0) (lw 1) j (f * (M * lw 0) + l)) 1 i + M * fgN (lw 0) (lw 1) j (f * (M * lw 0) + (1 + i)))
      exact Nat.add_assoc _ _ _
theorem c_ca62 (hO : OKL lw) {m0 : pm_M} (hL : LC m0 lw) {x1 : Int32} {M f : Nat} (hM : M = 1 ∨ M = lw 0) (hf : f < lw 0) {S0 : Nat → Prop} {C0 : Nat → Nat} (k : ∀ m' : pm_M, FS (lw 0) (lw 1) m0 m' (fun q => S0 q ∨ ∃ mid, mid < M ∧ q = f * (M * lw 0) + mid * lw 0) (fun j => C0 j + sm (fun mid => fgN (lw 0) (lw 1) j (f * (M * lw 0) + mid * lw 0)) 0 M) → pm_Ex ro m_X0_countAll 92 [.ref 15, .int x1, .int (nI (lw 0)), .int (nI M), .int (nI (M * lw 0)), .int (nI f), .int (nI (1 + 0))] [] m' Q) :
    ∀ (c i : Nat) (m : pm_M), i + c = M → FS (lw 0) (lw 1) m0 m (fun q => S0 q ∨ ∃ mid, mid < i ∧ q = f * (M * lw 0) + mid * lw 0) (fun j => C0 j + sm (fun mid => fgN (lw 0) (lw 1) j (f * (M * lw 0) + mid * lw 0)) 0 i) → pm_Ex ro m_X0_countAll 62 [.ref 15, .int x1, .int (nI (lw 0)), .int (nI M), .int (nI (M * lw 0)), .int (nI f), .int (nI i)] [] m Q := by
  have hb2 := hO.1
  have hb := hO.2.1
  intro c
  induction c with
  | zero =>
    intro i m hi hF
    have e : i = M := by omega
    subst e
    refine bk_X0_countAll_62 ⟨fun _ => ?_, fun q => absurd (nI_le (by omega) (by omega)) q⟩
    exact k _ hF
  | succ c ih =>
    intro i m hi hF
    refine bk_X0_countAll_62 ⟨fun q => ?_, fun _ => ?_⟩
    · rw [nI_leI (by omega) (by omega)] at q; omega
    rw [pk_mul, pk_mul, nI_add]
    have hil : i * lw 0 ≤ 36 * 36 := Nat.mul_le_mul (by omega) hb
    refine c_take (a := 1) hO hL (fM_lt hO hM hf (by omega)) hF (fun m' hF' => bk_X0_countAll_83 ?_)
    rw [nI_1]
    refine ih (i + 1) m' (by omega) (hF'.cg (fun q => ⟨?_, ?_⟩) (fun j hj => ?_))
    · rintro ((h | ⟨l, h2, h3⟩) | h)
      · exact Or.inl h
      · exact Or.inr ⟨l, by omega, h3⟩
      · exact Or.inr ⟨i, by omega, h⟩
    · rintro (h | ⟨l, h2, h3⟩)
      · exact Or.inl (Or.inl h)
      · by_cases e : l = i
        · subst e; exact Or.inr h3
        · exact Or.inl (Or.inr ⟨l, by omega, h3⟩)
    · show C0 j + sm (fun mid => fgN (lw 0) (lw 1) j (f * (M * lw 0) + mid * lw 0)) 0 i + 1 * fgN (lw 0) (lw 1) j (f * (M * lw 0) + i * lw 0) = C0 j + (sm (fun mid => fgN (lw 0) (lw 1) j (f * (M * lw 0) + mid * lw 0)) 0 i + fgN (lw 0) (lw 1) j (f * (M * lw 0) + (0 + i) * lw 0))
      rw [Nat.one_mul, Nat.zero_add, Nat.add_assoc]
theorem c_ca53 (hO : OKL lw) {m0 : pm_M} (hL : LC m0 lw) {x1 : Int32} {M : Nat} (hM : M = 1 ∨ M = lw 0) (k : ∀ m' : pm_M, FS (lw 0) (lw 1) m0 m' (RS (lw 0) M (lw 0)) (fun j => sm (blk (lw 0) M (fgN (lw 0) (lw 1) j)) 1 (lw 0 - 1)) → Q none m') :
    ∀ (c i : Nat) (m : pm_M), i + c = lw 0 - 1 → FS (lw 0) (lw 1) m0 m (RS (lw 0) M (1 + i)) (fun j => sm (blk (lw 0) M (fgN (lw 0) (lw 1) j)) 1 i) → ∀ {d6 : Value}, pm_Ex ro m_X0_countAll 53 [.ref 15, .int x1, .int (nI (lw 0)), .int (nI M), .int (nI (M * lw 0)), .int (nI (1 + i)), d6] [] m Q := by
  have hb2 := hO.1
  have hb := hO.2.1
  intro c
  induction c with
  | zero =>
    intro i m hi hF d6
    have e : i = lw 0 - 1 := by omega
    subst e
    refine bk_X0_countAll_53 ⟨fun _ => ?_, fun q => absurd (nI_le (by omega) (by omega)) q⟩
    rw [show 1 + (lw 0 - 1) = lw 0 by omega] at hF
    exact k _ hF
  | succ c ih =>
    intro i m hi hF d6
    refine bk_X0_countAll_53 ⟨fun q => ?_, fun _ => ?_⟩
    · rw [nI_leI (by omega) (by omega)] at q; omega
    refine c_ca62 (S0 := RS (lw 0) M (1 + i)) (C0 := fun j => sm (blk (lw 0) M (fgN (lw 0) (lw 1) j)) 1 i) hO hL hM (by omega) (fun m' hF' => ?_) M 0 m (by omega) (hF.cg (fun q => ⟨Or.inl, ?_⟩) (fun j hj => rfl))
    · refine c_ca92 (S0 := fun q => RS (lw 0) M (1 + i) q ∨ ∃ mid, mid < M ∧ q = (1 + i) * (M * lw 0) + mid * lw 0) (C0 := fun j => sm (blk (lw 0) M (fgN (lw 0) (lw 1) j)) 1 i + sm (fun mid => fgN (lw 0) (lw 1) j ((1 + i) * (M * lw 0) + mid * lw 0)) 0 M) hO hL hM (by omega) (fun m'' d hF'' => ?_) (lw 0 - 1) 0 m' (by omega) (hF'.cg (fun q => ⟨Or.inl, ?_⟩) (fun j hj => rfl))
      · refine ih (i + 1) m'' (by omega) (hF''.cg (fun q => ⟨?_, ?_⟩) (fun j hj => ?_))
        · rintro ((⟨f', h1, h2, h3⟩ | ⟨mid, h1, h2⟩) | ⟨l, h1, h2, h3⟩)
          · exact ⟨f', h1, by omega, h3⟩
          · exact ⟨1 + i, by omega, by omega, Or.inl ⟨mid, h1, h2⟩⟩
          · exact ⟨1 + i, by omega, by omega, Or.inr ⟨l, h1, by omega, h3⟩⟩
        · rintro ⟨f', h1, h2, h3⟩
          by_cases e : f' = 1 + i
          · subst e
            rcases h3 with ⟨mid, a1, a2⟩ | ⟨l, a1, a2, a3⟩
            · exact Or.inl (Or.inr ⟨mid, a1, a2⟩)
            · exact Or.inr ⟨l, a1, by omega, a3⟩
          · exact Or.inl (Or.inl ⟨f', h1, by omega, h3⟩)
        · exact Nat.add_assoc _ _ _
      · rintro (h | ⟨l, h1, h2, h3⟩)
        · exact h
        · omega
    · rintro (h | ⟨l, h1, h2⟩)
      · exact h
      · omega
theorem c_countAll (hO : OKL lw) {m0 m : pm_M} (hL : LC m0 lw) {y : Nat} (hy1 : 1 ≤ y) (hy : y ≤ 3) (hF : FS (lw 0) (lw 1) m0 m (fun _ => False) (fun _ => 0)) (k : ∀ m' : pm_M, Fr [15, 16] m0 m' → m' 15 2 = m0 15 2 → (∀ j, j < 4 → m' 16 j = nI (fgs lw y j)) → Q none m') : pm_Ex ro m_X0_countAll 0 [.ref 15, .int (nI y), .null, .null, .null, .null, .null] [] m Q := by
  have hb2 := hO.1
  have hb := hO.2.1
  have hLm := hL.fr (hF.1 2 (by decide))
  have fin : ∀ {S : Nat → Prop} {lo c : Nat} {m' : pm_M}, lw 0 ^ (y - 1) = lo → lw 0 ^ y - lw 0 ^ (y - 1) = c → 0 < c → FS (lw 0) (lw 1) m0 m' S (fun j => sm (fgN (lw 0) (lw 1) j) lo c) → (∀ n, IsB (dN (lw 0) (lw 1)) S n → IsB (dN (lw 0) (lw 1)) (fun q => lo ≤ q ∧ q < lo + c) n) → (∃ q, S q) → Q none m' := by
    intro S lo c m' h1 h2 hc hF' hb hS
    obtain ⟨a1, a2, a3, a4⟩ := hF'
    rcases a4 with ⟨z1, -⟩ | ⟨n, -, n1, n2, n3⟩
    · obtain ⟨q, hq⟩ := hS
      exact absurd hq (z1 q)
    · have e := fgs_is h1 h2 hc (hb n n1)
      refine k _ a1 a2 (fun j hj => ?_)
      rw [e j hj]
      by_cases j3 : j = 3
      · subst j3; rw [if_pos rfl]; exact n2
      · rw [if_neg j3]; exact a3 j (by omega)
  refine bk_X0_countAll_0 ⟨by decide, ?_⟩
  rw [show (0 : Int32).toNatClampNeg = 0 from rfl, hLm 0 (by decide)]
  refine ⟨fun h => ?_, fun h => ?_⟩
  · rw [nI_eq1 (by omega)] at h
    have key : ∀ M, (M = 1 ∨ M = lw 0) → lw 0 ^ (y - 1) = M * lw 0 → pm_Ex ro m_X0_countAll 53 [.ref 15, .int (nI y), .int (nI (lw 0)), .int (nI M), .int (nI (M * lw 0)), .int (nI (1 + 0)), .null] [] m Q := by
      intro M hM hp
      have hU : 0 < M * lw 0 := Nat.mul_pos (by omega) (by omega)
      have hsub : lw 0 ^ y - lw 0 ^ (y - 1) = (lw 0 - 1) * (M * lw 0) := by
        rw [← (pow_b hb2 hb hy1 hy).1, hp, Nat.sub_mul, Nat.one_mul, Nat.mul_comm (lw 0) (M * lw 0)]
      refine c_ca53 hO hL hM (fun m' hF' => ?_) (lw 0 - 1) 0 m (by omega) (hF.cg (fun q => ⟨fun h => h.elim, fun ⟨f, f1, f2, f3⟩ => by omega⟩) (fun j hj => rfl))
      refine fin hp hsub (Nat.mul_pos (by omega) hU) (hF'.cg (fun q => Iff.rfl) (fun j hj => blk_all hb2 hM j)) (fun n hn => RS_all hb2 hM hn) ⟨1 * (M * lw 0) + 1, 1, Nat.le_refl _, by omega, Or.inr ⟨1, Nat.le_refl _, by omega, rfl⟩⟩
    rcases (show y = 2 ∨ y = 3 by omega) with rfl | rfl
    · have := key 1 (Or.inl rfl) (by simp)
      rw [if_pos (by decide), show (1 : Int32) * nI (lw 0) = nI (1 * lw 0) from pk_mul 1 _]
      exact this
    · have := key (lw 0) (Or.inr rfl) (Nat.pow_two _)
      rw [if_neg (by decide), pk_mul]
      exact this
  · have h := Decidable.of_not_not h
    rw [nI_eq1 (by omega)] at h
    subst h
    refine c_ca16 hO hL (fun m' hF' => ?_) (lw 0 - 1) 0 m (by omega) (hF.cg (fun q => ⟨fun h => h.elim, fun h => by have := h.1; have := h.2; omega⟩) (fun j hj => rfl))
    refine fin (Nat.pow_zero _) (by rw [Nat.pow_one]; rfl) (by omega) hF' (fun n hn => hn) ⟨1, Nat.le_refl _, by omega⟩
end FGC
section FGA
variable {ro : pm_RO} {Q : Option Value → pm_M → Prop} {tx : Nat → Nat} {u : Nat} {lw ow : Nat → Nat} {sf : Nat → Int32} {sl : Nat → Nat} {si : Nat → Nat → Int32} {lt : Int32}
theorem c_answer (hO : OKL lw) {mem : pm_M} (hI : IC mem tx u lw ow sf sl si lt) {y w : Nat} (hy1 : 1 ≤ y) (hy : y ≤ 3) (hw : w ≤ 3) (k : ∀ mem' : pm_M, Fr [15, 16] mem mem' → IC mem' tx u lw ow sf sl si lt → Q (some (.int (nI (fgs lw y w)))) mem') : pm_Ex ro m_X0_answer 0 [.ref 15, .int (nI y), .int (nI w)] [] mem Q := by
  obtain ⟨h1, h2, h3, h4, h5, h6, h7, h8⟩ := id hI
  have hin : pm_inb (nI w) 4 = true := nI_inb (by omega) (by decide)
  have hIC : ∀ m : pm_M, Fr [15, 16] mem m → FI m lw → IC m tx u lw ow sf sl si lt := fun m hF hFI => ⟨h1.fr (congrFun (hF 3 (by decide)) 2) (hF 4 (by decide)), h2.fr (hF 3 (by decide)) (hF 5 (by decide)), h3.fr (hF 2 (by decide)), h4.fr (hF 12 (by decide)), h5.fr (fun t t1 t2 => hF t (by simp only [List.mem_cons, List.not_mem_nil, or_false]; omega)), by rw [hF 0 (by decide)]; exact h6, h7.fr (hF 6 (by decide)) (hF 7 (by decide)) (hF 8 (by decide)), hFI⟩
  refine bk_X0_answer_0 ⟨fun h => ⟨hin, ?_⟩, fun h => ?_⟩
  · rcases h8 with g | ⟨c, c1, c2, c3, c4⟩
    · rw [g] at h
      exact absurd h.symm (nI_ne0 (by omega) (by omega))
    · rw [c3, nI_eq (by omega) (by omega)] at h
      subst h
      rw [nI_clamp (by omega), c4 w (by omega)]
      exact k mem (Fr.rf _ _) hI
  · refine sp_fill (T := 16) (nT := 4) rfl (by decide) (bk_X0_answer_21 ?_)
    have hF1 : Fr [15, 16] mem (pm_upR (pm_up mem 15 3 (-1)) 16 (fun j => if j < 4 then 0 else pm_up mem 15 3 (-1) 16 j)) := ((Fr.rf _ _).up (by decide) _ _).upR (by decide) _
    refine c_countAll hO (h3.fr (hF1 2 (by decide))) hy1 hy ⟨Fr.rf _ _, rfl, fun j hj => ?_, Or.inl ⟨fun q h => h, ?_⟩⟩ (fun m' g1 g2 g3 => ?_)
    · rw [upR_t, if_pos (by omega)]; rfl
    · rw [upR_n (by decide), up_tk]
    · refine bk_X0_answer_26 ⟨hin, ?_⟩
      rw [nI_clamp (by omega), g3 w (by omega)]
      have hF2 : Fr [15, 16] mem (pm_up m' 15 2 (nI y)) := (hF1.tr g1).up (by decide) _ _
      refine k _ hF2 (hIC _ hF2 (Or.inr ⟨y, hy1, hy, up_tk _ _ _ _, fun j hj => ?_⟩))
      rw [up_n (by decide)]
      exact g3 j hj
def figA (lw : Nat → Nat) (a b : Int32) : Int32 := if (1 ≤ a ∧ a ≤ 3) ∧ 0 ≤ b ∧ b ≤ 3 then nI (fgs lw a.toNatClampNeg b.toNatClampNeg) else -2
theorem c_figures (hO : OKL lw) {mem : pm_M} (hI : IC mem tx u lw ow sf sl si lt) {a b : Int32} (k : ∀ mem' : pm_M, Fr CT mem mem' → IC mem' tx u lw ow sf sl si lt → Q (some (.int (figA lw a b))) mem') : pm_Ex ro m_X9_figures 0 [.ref 0, .int a, .int b] [] mem Q := by
  unfold figA at k
  refine bk_X9_figures_0 ⟨fun h1 => ⟨fun h2 => ?_, fun h2 => ?_⟩, fun h1 => ?_⟩
  · have g1 := rng_iff.mp h1
    have g2 := rng_iff.mp h2
    rw [if_pos ⟨g1, g2⟩] at k
    obtain ⟨y, hy1, hy, rfl⟩ := rng1 (n := 3) (by decide) g1
    obtain ⟨w, hw, rfl⟩ := rng' (n := 3) (by decide) g2
    rw [nI_clamp (by omega), nI_clamp (by omega)] at k
    refine c_answer hO hI hy1 hy hw (fun m' f1 f2 => bk_X9_figures_30 ?_)
    exact k m' (f1.CT (by decide)) f2
  · rw [if_neg (fun q => h2 (rng_iff.mpr q.2))] at k; exact k mem (Fr.rf _ _) hI
  · rw [if_neg (fun q => h1 (rng_iff.mpr q.1))] at k; exact k mem (Fr.rf _ _) hI
theorem ag_figures (hO : OK lw ow sf sl) (a b : Int32) : AGi ro m_X9_figures [.ref 0, .int a, .int b] m_X10_figures [.ref 33, .int a, .int b] (tx, u, lw, ow, sf, sl, si, lt) := by
  refine ⟨figA lw a b, (tx, u, lw, ow, sf, sl, si, lt), hO, fun m Q hI k => c_figures hO.1 hI k, fun m Q hI k => ?_⟩
  have hI : IR m tx u lw ow sf sl si lt := hI
  unfold figA at k
  refine bk_X10_figures_0 ⟨fun g1 => ⟨fun g2 => ?_, fun h2 => ?_⟩, fun h1 => ?_⟩
  · rw [if_pos ⟨g1, g2⟩] at k
    obtain ⟨y, hy1, hy, rfl⟩ := rng1 (n := 3) (by decide) g1
    obtain ⟨w, hw, rfl⟩ := rng' (n := 3) (by decide) g2
    rw [nI_clamp (by omega), nI_clamp (by omega)] at k
    exact r_figuresOf hO.1 hI.2.1 hy1 hy hw (bk_X10_figures_30 (k m (Fr.rf _ _) hI))
  · rw [if_neg (fun q => h2 q.2)] at k; exact k m (Fr.rf _ _) hI
  · rw [if_neg (fun q => h1 q.1)] at k; exact k m (Fr.rf _ _) hI
end FGA
