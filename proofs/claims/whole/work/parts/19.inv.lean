/-! what the object and the reference hold, between calls -/
def SM (p : Nat → Nat) : Nat → Nat → Nat
  | 0, _ => 0
  | g + 1, s => SM p g s + (if s.testBit g then p g else 0)
def SMt (tx : Nat → Nat) (u s : Nat) : Nat := SM (pzP tx u) (pzG tx u) s
def PD (lw : Nat → Nat) (n : Nat) : Nat := paidN (lw 0) (lw 1) n
def pc8 (s : Nat) : Nat := (List.range 8).foldl (fun a i => a + (if s.testBit i then 1 else 0)) 0
/-- a BILL's cost: what is PAID, and the FEE -/
def cst (tx : Nat → Nat) (u : Nat) (lw : Nat → Nat) (s : Nat) : Nat := PD lw (SMt tx u s) + lw 2
/-- the sets that k bills may hold beside the one with the lowest of s -/
def subs (k s : Nat) : List Nat := (List.range 256).filter (fun r => decide (r ≠ 0) && decide (r &&& (s &&& (s - 1)) = r) && decide (k ≤ pc8 r))
/-- the least and the most for s on just k bills -/
def mnk (tx : Nat → Nat) (u : Nat) (lw : Nat → Nat) : Nat → Nat → Nat
  | 0, _ => 0
  | 1, s => cst tx u lw s
  | k + 2, s => (subs (k + 1) s).foldl (fun a r => min a (cst tx u lw (s ^^^ r) + mnk tx u lw (k + 1) r)) 2147483647
def mxk (tx : Nat → Nat) (u : Nat) (lw : Nat → Nat) : Nat → Nat → Nat
  | 0, _ => 0
  | 1, s => cst tx u lw s
  | k + 2, s => (subs (k + 1) s).foldl (fun a r => max a (cst tx u lw (s ^^^ r) + mxk tx u lw (k + 1) r)) 0
/-- one more set s on k bills is looked at -/
def btS (tx : Nat → Nat) (u : Nat) (lw : Nat → Nat) (k : Nat) (a : Nat × Nat × Nat × Nat) (s : Nat) : Nat × Nat × Nat × Nat :=
  if s &&& pzW tx u = pzW tx u ∧ k ≤ pc8 s then
    (if mnk tx u lw k s < a.1 then (mnk tx u lw k s, k, s, max a.2.2.2 (mxk tx u lw k s)) else (a.1, a.2.1, a.2.2.1, max a.2.2.2 (mxk tx u lw k s)))
  else a
def btK (tx : Nat → Nat) (u : Nat) (lw : Nat → Nat) (a : Nat × Nat × Nat × Nat) (k : Nat) : Nat × Nat × Nat × Nat := (List.range' 1 (2 ^ pzG tx u - 1)).foldl (btS tx u lw k) a
def bt0 (tx : Nat → Nat) (u : Nat) : Nat × Nat × Nat × Nat := (if pzW tx u = 0 then 0 else 2147483647, 0, 0, 0)
def btA (tx : Nat → Nat) (u : Nat) (lw : Nat → Nat) : Nat × Nat × Nat × Nat := (List.range' 1 (lw 3)).foldl (btK tx u lw) (bt0 tx u)
def bt4 (r : Nat × Nat × Nat × Nat) (j : Nat) : Nat := match j with
  | 0 => r.1
  | 1 => r.2.1
  | 2 => r.2.2.1
  | _ => r.2.2.2
/-- FIGURES, number by number -/
def fgo (b z : Nat) : Nat → Nat → Nat → Nat → Nat → Nat → Nat → Nat × Nat × Nat × Nat
  | 0, _, al, be, ab, best, _ => (al, be, ab, best)
  | k + 1, n, al, be, ab, best, far =>
    let q := paidN b z n
    let d := if q ≤ n then n - q else q - n
    fgo b z k (n + 1) (al + (if q = n then 1 else 0)) (be + (if q < n then 1 else 0)) (ab + (if n < q then 1 else 0)) (if far < d + 1 then n else best) (if far < d + 1 then d + 1 else far)
def fgs (lw : Nat → Nat) (m j : Nat) : Nat := bt4 (fgo (lw 0) (lw 1) (lw 0 ^ m - lw 0 ^ (m - 1)) (lw 0 ^ (m - 1)) 0 0 0 (lw 0 ^ (m - 1)) 0) j
def OKL (lw : Nat → Nat) : Prop := 2 ≤ lw 0 ∧ lw 0 ≤ 36 ∧ lw 1 ≤ 1 ∧ lw 2 ≤ 99 ∧ 1 ≤ lw 3 ∧ lw 3 ≤ 4
def OKO (ow : Nat → Nat) : Prop := ∀ j, j < 8 → ow j < 4
def OKS (sf : Nat → Int32) (sl : Nat → Nat) : Prop := ∀ s, s < 4 → (sf s = -1 ∨ sf s = 0 ∨ sf s = 1 ∨ sf s = 2) ∧ sl s ≤ 60 ∧ (sf s = -1 → sl s = 0)
def LC (mem : pm_M) (lw : Nat → Nat) : Prop := ∀ j, j < 4 → mem 2 j = nI (lw j)
def LR (mem : pm_M) (lw : Nat → Nat) : Prop := ∀ j, j < 4 → mem 41 j = nI (lw j)
def OC (mem : pm_M) (ow : Nat → Nat) : Prop := ∀ j, j < 8 → mem 12 j = nI (ow j)
def OR (mem : pm_M) (ow : Nat → Nat) : Prop := ∀ j, j < 8 → mem 40 j = nI (ow j)
def SC (mem : pm_M) (sf : Nat → Int32) (sl : Nat → Nat) (si : Nat → Nat → Int32) : Prop := ∀ s, s < 4 → mem (24 + 2 * s) 1 = sf s ∧ mem (24 + 2 * s) 2 = nI (sl s) ∧ ∀ j, j < sl s → mem (24 + 2 * s + 1) j = si s j
def SR (mem : pm_M) (sf : Nat → Int32) (sl : Nat → Nat) (si : Nat → Nat → Int32) : Prop := ∀ s, s < 4 → mem 34 s = sf s ∧ (¬ sf s = -1 → mem 35 s = nI (sl s)) ∧ ∀ j, j < sl s → mem 36 (60 * s + j) = si s j
/-- the till's sums and payments -/
def BI (mem : pm_M) (tx : Nat → Nat) (u : Nat) (lw : Nat → Nat) : Prop := ∀ s, 0 < s → s < 2 ^ pzG tx u → mem 7 s = nI (SMt tx u s) ∧ mem 8 s = nI (PD lw (SMt tx u s))
def TI (mem : pm_M) (tx : Nat → Nat) (u : Nat) (lw : Nat → Nat) : Prop := mem 7 0 = 0 ∧ (mem 6 6 = 0 ∨ (mem 6 6 = 1 ∧ BI mem tx u lw)) ∧ (mem 6 7 = 0 ∨ (mem 6 7 = 1 ∧ ∀ j, j < 4 → mem 6 (8 + j) = nI (bt4 (btA tx u lw) j)))
def FI (mem : pm_M) (lw : Nat → Nat) : Prop := mem 15 2 = 0 ∨ ∃ c, 1 ≤ c ∧ c ≤ 3 ∧ mem 15 2 = nI c ∧ ∀ j, j < 4 → mem 16 j = nI (fgs lw c j)
def IC (mem : pm_M) (tx : Nat → Nat) (u : Nat) (lw ow : Nat → Nat) (sf : Nat → Int32) (sl : Nat → Nat) (si : Nat → Nat → Int32) (lt : Int32) : Prop :=
  TC mem tx u ∧ GC mem tx u ∧ LC mem lw ∧ OC mem ow ∧ SC mem sf sl si ∧ mem 0 10 = lt ∧ TI mem tx u lw ∧ FI mem lw
def IR (mem : pm_M) (tx : Nat → Nat) (u : Nat) (lw ow : Nat → Nat) (sf : Nat → Int32) (sl : Nat → Nat) (si : Nat → Nat → Int32) (lt : Int32) : Prop :=
  TR mem tx u ∧ LR mem lw ∧ OR mem ow ∧ SR mem sf sl si ∧ mem 33 4 = lt
def OK (lw ow : Nat → Nat) (sf : Nat → Int32) (sl : Nat → Nat) : Prop := OKL lw ∧ OKO ow ∧ OKS sf sl
abbrev CT : List Nat := [0, 1, 2, 3, 4, 5, 6, 7, 8, 9, 10, 11, 12, 13, 14, 15, 16, 17, 18, 19, 20, 21, 22, 23, 24, 25, 26, 27, 28, 29, 30, 31, 32]
abbrev RT : List Nat := [33, 34, 35, 36, 37, 38, 39, 40, 41, 42, 43, 44, 45, 46, 47, 48]
section INV
variable {mem mem' : pm_M} {tx : Nat → Nat} {u : Nat} {lw ow : Nat → Nat} {sf : Nat → Int32} {sl : Nat → Nat} {si : Nat → Nat → Int32} {lt : Int32}
theorem IR.fr (h : IR mem tx u lw ow sf sl si lt) (hF : Fr CT mem mem') : IR mem' tx u lw ow sf sl si lt := by
  obtain ⟨h1, h2, h3, h4, h5⟩ := h
  refine ⟨h1.fr (by rw [hF 33 (by decide)]) (hF 38 (by decide)), fun j hj => by rw [hF 41 (by decide)]; exact h2 j hj, fun j hj => by rw [hF 40 (by decide)]; exact h3 j hj, fun s hs => ?_, by rw [hF 33 (by decide)]; exact h5⟩
  rw [hF 34 (by decide), hF 35 (by decide), hF 36 (by decide)]
  exact h4 s hs
/-- the class's part depends on these tags alone -/
theorem IC.fr (h : IC mem tx u lw ow sf sl si lt) (hF : Fr RT mem mem') : IC mem' tx u lw ow sf sl si lt := by
  obtain ⟨h1, h2, h3, h4, h5, h6, h7, h8⟩ := h
  have e : ∀ t, t < 33 → mem' t = mem t := fun t ht => hF t (by simp only [RT, List.mem_cons, List.not_mem_nil, or_false]; omega)
  refine ⟨h1.fr (by rw [e 3 (by decide)]) (e 4 (by decide)), ?_, fun j hj => by rw [e 2 (by decide)]; exact h3 j hj, fun j hj => by rw [e 12 (by decide)]; exact h4 j hj, fun s hs => ?_, by rw [e 0 (by decide)]; exact h6, ?_, ?_⟩
  · unfold GC; rw [e 3 (by decide), e 5 (by decide)]; exact h2
  · rw [e (24 + 2 * s) (by omega), e (24 + 2 * s + 1) (by omega)]; exact h5 s hs
  · unfold TI BI; rw [e 6 (by decide), e 7 (by decide), e 8 (by decide)]; exact h7
  · unfold FI; rw [e 15 (by decide), e 16 (by decide)]; exact h8
end INV
theorem rng_iff {a lo hi : Int32} : (¬ a < lo ∧ ¬ hi < a) ↔ (lo ≤ a ∧ a ≤ hi) := by
  rw [Int32.lt_iff_toInt_lt, Int32.lt_iff_toInt_lt, Int32.le_iff_toInt_le, Int32.le_iff_toInt_le]; omega
theorem rng {a : Int32} {n : Nat} (hn : n < 2 ^ 31) (h : ¬ a < 0 ∧ ¬ nI n < a) : ∃ j, j ≤ n ∧ a = nI j := by
  obtain ⟨j, hj, rfl⟩ := nI_of h.1
  refine ⟨j, ?_, rfl⟩
  have := h.2
  rw [nI_ltI hn hj] at this
  omega
theorem rng' {a : Int32} {n : Nat} (hn : n < 2 ^ 31) (h : 0 ≤ a ∧ a ≤ nI n) : ∃ j, j ≤ n ∧ a = nI j := rng hn (rng_iff.mpr h)
theorem nI_rng {j n : Nat} (hn : n < 2 ^ 31) (hj : j ≤ n) : 0 ≤ nI j ∧ nI j ≤ nI n := ⟨nI_pos' (by omega), nI_le hj hn⟩
/-! paid, added, type, wipe, fault, partner, set -/
section OPS1
variable {ro : pm_RO} {Q : Option Value → pm_M → Prop} {mem : pm_M} {tx : Nat → Nat} {u : Nat} {lw ow : Nat → Nat} {sf : Nat → Int32} {sl : Nat → Nat} {si : Nat → Nat → Int32} {lt : Int32}
theorem pdC (hO : OKL lw) (hL : LC mem lw) {n : Nat} (hn : n < 2 ^ 25) (k : Q (some (.int (nI (PD lw n)))) mem) : pm_Ex ro m_X2_paidFor 0 [.ref 1, .int (nI n), .null, .null, .null, .null, .null, .null] [] mem Q :=
  sp_paidC hO.1 hO.2.1 hO.2.2.1 (hL 0 (by decide)) (hL 1 (by decide)) hn k
theorem pdR (hO : OKL lw) (hL : LR mem lw) {n : Nat} (hn : n < 2 ^ 25) (k : Q (some (.int (nI (PD lw n)))) mem) : pm_Ex ro m_X10_paidFor 0 [.ref 33, .int (nI n), .null, .null, .null, .null] [] mem Q :=
  sp_paidR hO.1 hO.2.1 hO.2.2.1 (hL 0 (by decide)) (hL 1 (by decide)) (by omega) k
theorem PD_lt (hO : OKL lw) {n : Nat} (hn : n < 2 ^ 25) : PD lw n < 2 ^ 31 := by
  rcases Nat.eq_zero_or_pos n with h | h
  · subst h; unfold PD; rw [paid_0]; decide
  · have := paid_lt hO.1 (lw 1) h
    have h2 : lw 0 * n ≤ 36 * n := Nat.mul_le_mul_right n hO.2.1
    unfold PD; omega
def paidA (lw : Nat → Nat) (a : Int32) : Int32 := if 0 ≤ a ∧ a ≤ 9999 then nI (PD lw a.toNatClampNeg) else -2
theorem c_paid (hO : OKL lw) (hL : LC mem lw) {a : Int32} (k : Q (some (.int (paidA lw a))) mem) : pm_Ex ro m_X9_paid 0 [.ref 0, .int a] [] mem Q := by
  refine bk_X9_paid_0 ⟨fun h => ?_, fun h => ?_⟩
  · have h' := rng_iff.mp h
    obtain ⟨j, hj, rfl⟩ := rng (n := 9999) (by decide) h
    refine pdC hO hL (by omega) (bk_X9_paid_15 ?_)
    unfold paidA at k
    rw [if_pos h', nI_clamp (by omega)] at k
    exact k
  · unfold paidA at k
    rw [if_neg (fun q => h (rng_iff.mpr q))] at k
    exact k
theorem r_paid (hO : OKL lw) (hL : LR mem lw) {a : Int32} (k : Q (some (.int (paidA lw a))) mem) : pm_Ex ro m_X10_paid 0 [.ref 33, .int a] [] mem Q := by
  refine bk_X10_paid_0 ⟨fun h => ?_, fun h => ?_⟩
  · obtain ⟨j, hj, rfl⟩ := rng' (n := 9999) (by decide) h
    refine pdR hO hL (by omega) (bk_X10_paid_12 ?_)
    unfold paidA at k
    rw [if_pos h, nI_clamp (by omega)] at k
    exact k
  · unfold paidA at k
    rw [if_neg h] at k
    exact k
/-- ADDED: the least more by which the least is PAID, m of them looked at -/
def adN (lw : Nat → Nat) (n : Nat) : Nat → Nat
  | 0 => 0
  | m + 1 => if PD lw (n + adN lw n m) ≤ PD lw (n + (m + 1)) then adN lw n m else m + 1
theorem adN_le (lw : Nat → Nat) (n : Nat) : ∀ m, adN lw n m ≤ m := by
  intro m
  induction m with
  | zero => exact Nat.le_refl _
  | succ m ih => simp only [adN]; split <;> omega
def addA (lw : Nat → Nat) (a : Int32) : Int32 := if 0 ≤ a ∧ a ≤ 9999 then nI (adN lw a.toNatClampNeg 99) else -2
theorem c_added_24 (hO : OKL lw) (hL : LC mem lw) {n : Nat} (hn : n ≤ 9999) (k : Q (some (.int (nI (adN lw n 99)))) mem) : ∀ (c m : Nat), m + c = 99 → ∀ {d5 : Value}, pm_Ex ro m_X9_added 24 [.ref 0, .int (nI n), .int (nI (adN lw n m)), .int (nI (PD lw (n + adN lw n m))), .int (nI (m + 1)), d5] [] mem Q := by
  intro c
  induction c with
  | zero =>
    intro m hm d5
    have : m = 99 := by omega
    subst this
    refine bk_X9_added_24 ⟨fun _ => k, fun h => absurd (by decide) h⟩
  | succ c ih =>
    intro m hm d5
    refine bk_X9_added_24 ⟨fun h => ?_, fun _ => ?_⟩
    · rw [show (99 : Int32) = nI 99 from rfl, nI_ltI (by decide) (by omega)] at h
      omega
    rw [nI_add]
    have hle := adN_le lw n m
    refine pdC hO hL (by omega) (bk_X9_added_42 ?_)
    have h1 := PD_lt hO (n := n + adN lw n m) (by omega)
    have h2 := PD_lt hO (n := n + (m + 1)) (by omega)
    rw [nI_1]
    have key := ih (m + 1) (by omega) (d5 := .int (nI (PD lw (n + (m + 1)))))
    simp only [adN] at key
    by_cases hc : PD lw (n + adN lw n m) ≤ PD lw (n + (m + 1))
    · rw [if_pos ((nI_leI h1 h2).mpr hc), if_pos ((nI_leI h1 h2).mpr hc)]
      rw [if_pos hc] at key
      exact key
    · rw [if_neg (fun q => hc ((nI_leI h1 h2).mp q)), if_neg (fun q => hc ((nI_leI h1 h2).mp q))]
      rw [if_neg hc] at key
      exact key
theorem c_added (hO : OKL lw) (hL : LC mem lw) {a : Int32} (k : Q (some (.int (addA lw a))) mem) : pm_Ex ro m_X9_added 0 [.ref 0, .int a, .null, .null, .null, .null] [] mem Q := by
  refine bk_X9_added_0 ⟨fun h => ?_, fun h => ?_⟩
  · have h' := rng_iff.mp h
    obtain ⟨j, hj, rfl⟩ := rng (n := 9999) (by decide) h
    refine pdC hO hL (by omega) (bk_X9_added_20 ?_)
    unfold addA at k
    rw [if_pos h', nI_clamp (by omega)] at k
    exact c_added_24 hO hL hj k 99 0 rfl
  · unfold addA at k
    rw [if_neg (fun q => h (rng_iff.mpr q))] at k
    exact k
theorem r_addedTo_4 (hO : OKL lw) (hL : LR mem lw) {n : Nat} (hn : n ≤ 9999) (k : Q (some (.int (nI (adN lw n 99)))) mem) : ∀ (c m : Nat), m + c = 99 → pm_Ex ro m_X10_addedTo 4 [.ref 33, .int (nI n), .int (nI (adN lw n m)), .int (nI (m + 1))] [] mem Q := by
  intro c
  induction c with
  | zero =>
    intro m hm
    have : m = 99 := by omega
    subst this
    refine bk_X10_addedTo_4 ⟨fun _ => k, fun h => absurd (by decide) h⟩
  | succ c ih =>
    intro m hm
    refine bk_X10_addedTo_4 ⟨fun h => ?_, fun _ => ?_⟩
    · rw [show (100 : Int32) = nI 100 from rfl, nI_leI (by decide) (by omega)] at h
      omega
    rw [nI_add]
    have hle := adN_le lw n m
    refine pdR hO hL (by omega) (bk_X10_addedTo_17 ?_)
    rw [nI_add]
    refine pdR hO hL (by omega) (bk_X10_addedTo_24 ?_)
    have h1 := PD_lt hO (n := n + adN lw n m) (by omega)
    have h2 := PD_lt hO (n := n + (m + 1)) (by omega)
    rw [nI_1]
    have key := ih (m + 1) (by omega)
    simp only [adN] at key
    by_cases hc : PD lw (n + adN lw n m) ≤ PD lw (n + (m + 1))
    · rw [if_pos ((nI_leI h1 h2).mpr hc)]
      rw [if_pos hc] at key
      exact key
    · rw [if_neg (fun q => hc ((nI_leI h1 h2).mp q))]
      rw [if_neg hc] at key
      exact key
theorem r_addedTo (hO : OKL lw) (hL : LR mem lw) {n : Nat} (hn : n ≤ 9999) (k : Q (some (.int (nI (adN lw n 99)))) mem) : pm_Ex ro m_X10_addedTo 0 [.ref 33, .int (nI n), .null, .null] [] mem Q :=
  bk_X10_addedTo_0 (r_addedTo_4 hO hL hn k 99 0 rfl)
theorem r_added (hO : OKL lw) (hL : LR mem lw) {a : Int32} (k : Q (some (.int (addA lw a))) mem) : pm_Ex ro m_X10_added 0 [.ref 33, .int a] [] mem Q := by
  refine bk_X10_added_0 ⟨fun h => ?_, fun h => ?_⟩
  · obtain ⟨j, hj, rfl⟩ := rng' (n := 9999) (by decide) h
    unfold addA at k
    rw [if_pos h, nI_clamp (by omega)] at k
    exact r_addedTo hO hL hj (bk_X10_added_12 k)
  · unfold addA at k
    rw [if_neg h] at k
    exact k
end OPS1
