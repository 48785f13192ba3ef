/-! figures -/
def sm (g : Nat → Nat) (a : Nat) : Nat → Nat
  | 0 => 0
  | c + 1 => sm g a c + g (a + c)
theorem sm_congr {g h : Nat → Nat} {a : Nat} : ∀ c, (∀ i, a ≤ i → i < a + c → g i = h i) → sm g a c = sm h a c := by
  intro c
  induction c with
  | zero => intro _; rfl
  | succ c ih => intro e; simp only [sm]; rw [ih (fun i h1 h2 => e i h1 (by omega)), e (a + c) (by omega) (by omega)]
theorem sm_add (g : Nat → Nat) (a c : Nat) : ∀ d, sm g a (c + d) = sm g a c + sm g (a + c) d := by
  intro d
  induction d with
  | zero => rfl
  | succ d ih => rw [← Nat.add_assoc]; simp only [sm]; rw [ih]; simp only [Nat.add_assoc]
theorem sm_shift (g : Nat → Nat) (a t : Nat) : ∀ c, sm g (a + t) c = sm (fun i => g (i + t)) a c := by
  intro c
  induction c with
  | zero => rfl
  | succ c ih => simp only [sm]; rw [ih, show a + t + c = a + c + t by omega]
theorem sm_front (g : Nat → Nat) (a c : Nat) : sm g a (c + 1) = g a + sm g (a + 1) c := by
  rw [Nat.add_comm c 1, sm_add]; simp [sm]
theorem sm_plus (g h : Nat → Nat) (a : Nat) : ∀ c, sm (fun i => g i + h i) a c = sm g a c + sm h a c := by
  intro c
  induction c with
  | zero => rfl
  | succ c ih => simp only [sm]; rw [ih]; omega
theorem sm_const (t a : Nat) : ∀ c, sm (fun _ => t) a c = c * t := by
  intro c
  induction c with
  | zero => simp [sm]
  | succ c ih => simp only [sm]; rw [ih, Nat.succ_mul]
theorem sm_mul (k : Nat) (g : Nat → Nat) (a : Nat) : ∀ c, sm (fun i => k * g i) a c = k * sm g a c := by
  intro c
  induction c with
  | zero => rfl
  | succ c ih => simp only [sm]; rw [ih, Nat.mul_add]
theorem sm_block (g : Nat → Nat) (a q : Nat) : ∀ p, sm g a (p * q) = sm (fun i => sm g (a + i * q) q) 0 p := by
  intro p
  induction p with
  | zero => rw [Nat.zero_mul]; rfl
  | succ p ih => rw [Nat.succ_mul, sm_add, ih]; simp only [sm, Nat.zero_add]
theorem sm_le1 {g : Nat → Nat} (h : ∀ i, g i ≤ 1) (a : Nat) : ∀ c, sm g a c ≤ c := by
  intro c
  induction c with
  | zero => exact Nat.le_refl _
  | succ c ih => simp only [sm]; have := h (a + c); omega
/-- how far n is from what is PAID for it -/
def dN (b z n : Nat) : Nat := if paidN b z n ≤ n then n - paidN b z n else paidN b z n - n
def fgN (b z j n : Nat) : Nat := if j = 0 then (if paidN b z n = n then 1 else 0) else if j = 1 then (if paidN b z n < n then 1 else 0) else (if n < paidN b z n then 1 else 0)
def IsB (d : Nat → Nat) (S : Nat → Prop) (n : Nat) : Prop := S n ∧ ∀ q, S q → d q < d n ∨ (d q = d n ∧ n ≤ q)
theorem IsB.un {d : Nat → Nat} {S : Nat → Prop} {n m : Nat} (h : IsB d S n) (h' : IsB d S m) : n = m := by
  have h1 := h.2 m h'.1
  have h2 := h'.2 n h.1
  omega
/-- one more number -/
theorem IsB.st {d : Nat → Nat} {S : Nat → Prop} {n q : Nat} (h : IsB d S n) : IsB d (fun r => S r ∨ r = q) (if d n < d q ∨ (d q = d n ∧ q < n) then q else n) := by
  by_cases hc : d n < d q ∨ (d q = d n ∧ q < n)
  · rw [if_pos hc]
    refine ⟨Or.inr rfl, fun r hr => ?_⟩
    rcases hr with z | z
    · have := h.2 r z; omega
    · subst z; exact Or.inr ⟨rfl, Nat.le_refl _⟩
  · rw [if_neg hc]
    refine ⟨Or.inl h.1, fun r hr => ?_⟩
    rcases hr with z | z
    · exact h.2 r z
    · subst z; omega
theorem fgo_sp (b z lo : Nat) : ∀ (c n al be ab best far : Nat), lo ≤ n → ((n = lo ∧ far = 0) ∨ (IsB (dN b z) (fun q => lo ≤ q ∧ q < n) best ∧ far = dN b z best + 1)) → 0 < n + c - lo →
    ∃ bst, IsB (dN b z) (fun q => lo ≤ q ∧ q < n + c) bst ∧ fgo b z c n al be ab best far = (al + sm (fgN b z 0) n c, be + sm (fgN b z 1) n c, ab + sm (fgN b z 2) n c, bst) := by
  intro c
  induction c with
  | zero =>
    intro n al be ab best far hn h hp
    rcases h with ⟨h1, -⟩ | ⟨h1, -⟩
    · omega
    · exact ⟨best, h1, rfl⟩
  | succ c ih =>
    intro n al be ab best far hn h hp
    have hst : IsB (dN b z) (fun q => lo ≤ q ∧ q < n + 1) (if far < dN b z n + 1 then n else best) ∧ (if far < dN b z n + 1 then dN b z n + 1 else far) = dN b z (if far < dN b z n + 1 then n else best) + 1 := by
      rcases h with ⟨h1, h2⟩ | ⟨h1, h2⟩
      · subst h2
        rw [if_pos (by omega), if_pos (by omega)]
        refine ⟨⟨⟨hn, by omega⟩, fun q hq => ?_⟩, rfl⟩
        have : q = n := by omega
        subst this; exact Or.inr ⟨rfl, Nat.le_refl _⟩
      · have h3 := h1.st (q := n)
        have e : (dN b z best < dN b z n ∨ (dN b z n = dN b z best ∧ n < best)) ↔ far < dN b z n + 1 := by
          have := h1.1.2; omega
        have e2 : (fun r => (lo ≤ r ∧ r < n) ∨ r = n) = (fun q => lo ≤ q ∧ q < n + 1) := by
          funext r; apply propext; constructor
          · rintro (h | h) <;> omega
          · intro h; omega
        rw [e2] at h3
        by_cases hc : far < dN b z n + 1
        · rw [if_pos (e.mpr hc)] at h3
          rw [if_pos hc, if_pos hc]; exact ⟨h3, rfl⟩
        · rw [if_neg (fun q => hc (e.mp q))] at h3
          rw [if_neg hc, if_neg hc]; exact ⟨h3, h2⟩
    obtain ⟨bst, k1, k2⟩ := ih (n + 1) (al + fgN b z 0 n) (be + fgN b z 1 n) (ab + fgN b z 2 n) (if far < dN b z n + 1 then n else best) (if far < dN b z n + 1 then dN b z n + 1 else far) (by omega) (Or.inr hst) (by omega)
    refine ⟨bst, ?_, ?_⟩
    · rw [show n + (c + 1) = n + 1 + c by omega]; exact k1
    · have e : fgo b z (c + 1) n al be ab best far = fgo b z c (n + 1) (al + fgN b z 0 n) (be + fgN b z 1 n) (ab + fgN b z 2 n) (if far < dN b z n + 1 then n else best) (if far < dN b z n + 1 then dN b z n + 1 else far) := rfl
      rw [e, k2, sm_front, sm_front, sm_front]
      simp only [Nat.add_assoc]
/-- without a nought at the end the middle figure stays -/
theorem paid3 {b z f mid l : Nat} (hb : 2 ≤ b) (hf1 : 1 ≤ f) (hf : f < b) (hm : mid < b) (hl1 : 1 ≤ l) (hl : l < b) : paidN b z (f * (b * b) + mid * b + l) = l * (b * b) + mid * b + f := by
  have e1 : f * (b * b) + mid * b + l = (f * b + mid) * b + l := by rw [Nat.add_mul, Nat.mul_assoc]
  have hfb : 0 < f * b := Nat.mul_pos hf1 (by omega)
  have hn0 : 0 < (f * b + mid) * b + l := by omega
  have m1 : ((f * b + mid) * b + l) % b = l := by rw [Nat.mul_comm, Nat.mul_add_mod, Nat.mod_eq_of_lt hl]
  have d1 : ((f * b + mid) * b + l) / b = f * b + mid := by rw [Nat.mul_comm, Nat.mul_add_div (by omega), Nat.div_eq_of_lt hl, Nat.add_zero]
  have m2 : (f * b + mid) % b = mid := by rw [Nat.mul_comm, Nat.mul_add_mod, Nat.mod_eq_of_lt hm]
  have d2 : (f * b + mid) / b = f := by rw [Nat.mul_comm, Nat.mul_add_div (by omega), Nat.div_eq_of_lt hm, Nat.add_zero]
  have hs : sh b ((f * b + mid) * b + l) = 1 := sh_1 (by rw [m1]; omega)
  unfold paidN
  rw [e1, hs, ite_self, Nat.mul_one, rv_s hb hn0, m1, d1, rv_s hb (by omega), m2, d2, rv_s hb (by omega), Nat.mod_eq_of_lt hf, Nat.div_eq_of_lt hf, rv_0]
  rw [Nat.zero_mul, Nat.zero_add, Nat.add_mul, Nat.mul_assoc]
theorem shift3 {b z f mid l : Nat} (hb : 2 ≤ b) (hf1 : 1 ≤ f) (hf : f < b) (hm : mid < b) (hl1 : 1 ≤ l) (hl : l < b) : dN b z (f * (b * b) + mid * b + l) = dN b z (f * (b * b) + l) ∧ ∀ j, fgN b z j (f * (b * b) + mid * b + l) = fgN b z j (f * (b * b) + l) := by
  have h1 := paid3 (z := z) hb hf1 hf hm hl1 hl
  have h2 := paid3 (z := z) (mid := 0) hb hf1 hf (by omega) hl1 hl
  rw [Nat.zero_mul, Nat.add_zero, Nat.add_zero] at h2
  refine ⟨?_, fun j => ?_⟩
  · unfold dN
    rw [h1, h2]
    by_cases hc : l * (b * b) + f ≤ f * (b * b) + l
    · rw [if_pos hc, if_pos (by omega)]; omega
    · rw [if_neg hc, if_neg (by omega)]; omega
  · unfold fgN
    rw [h1, h2]
    have a1 : (l * (b * b) + mid * b + f = f * (b * b) + mid * b + l) ↔ (l * (b * b) + f = f * (b * b) + l) := by omega
    have a2 : (l * (b * b) + mid * b + f < f * (b * b) + mid * b + l) ↔ (l * (b * b) + f < f * (b * b) + l) := by omega
    have a3 : (f * (b * b) + mid * b + l < l * (b * b) + mid * b + f) ↔ (f * (b * b) + l < l * (b * b) + f) := by omega
    simp only [a1, a2, a3]
/-- M middle figures (1: none is there) -/
theorem shiftM {b z M f mid l : Nat} (hb : 2 ≤ b) (hM : M = 1 ∨ M = b) (hf1 : 1 ≤ f) (hf : f < b) (hm : mid < M) (hl1 : 1 ≤ l) (hl : l < b) : dN b z (f * (M * b) + mid * b + l) = dN b z (f * (M * b) + l) ∧ ∀ j, fgN b z j (f * (M * b) + mid * b + l) = fgN b z j (f * (M * b) + l) := by
  rcases hM with h | h
  · subst h
    have : mid = 0 := by omega
    subst this
    rw [Nat.zero_mul, Nat.add_zero]
    exact ⟨rfl, fun _ => rfl⟩
  · subst h
    exact shift3 hb hf1 hf hm hl1 hl
/-- what the object counts with one first figure -/
def blk (b M : Nat) (g : Nat → Nat) (f : Nat) : Nat := sm (fun mid => g (f * (M * b) + mid * b)) 0 M + sm (fun l => M * g (f * (M * b) + l)) 1 (b - 1)
theorem blk_sm {b z M f : Nat} (hb : 2 ≤ b) (hM : M = 1 ∨ M = b) (hf1 : 1 ≤ f) (hf : f < b) (j : Nat) : blk b M (fgN b z j) f = sm (fgN b z j) (f * (M * b)) (M * b) := by
  rw [sm_block]
  have e : ∀ i, 0 ≤ i → i < 0 + M → sm (fgN b z j) (f * (M * b) + i * b) b = fgN b z j (f * (M * b) + i * b) + sm (fun l => fgN b z j (f * (M * b) + l)) 1 (b - 1) := by
    intro i _ hi
    rw [show sm (fgN b z j) (f * (M * b) + i * b) b = sm (fgN b z j) (f * (M * b) + i * b) ((b - 1) + 1) by rw [show b - 1 + 1 = b by omega], sm_front]
    congr 1
    rw [show f * (M * b) + i * b + 1 = 1 + (f * (M * b) + i * b) by omega, sm_shift]
    refine sm_congr _ (fun l h1 h2 => ?_)
    have := (shiftM (z := z) (mid := i) (l := l) hb hM hf1 hf (by omega) h1 (by omega)).2 j
    rw [show l + (f * (M * b) + i * b) = f * (M * b) + i * b + l by omega]
    exact this
  rw [sm_congr _ e, sm_plus, sm_const]
  unfold blk
  rw [sm_mul]
theorem blk_all {b z M : Nat} (hb : 2 ≤ b) (hM : M = 1 ∨ M = b) (j : Nat) : sm (blk b M (fgN b z j)) 1 (b - 1) = sm (fgN b z j) (M * b) ((b - 1) * (M * b)) := by
  rw [sm_block]
  have e : ∀ i, 1 ≤ i → i < 1 + (b - 1) → blk b M (fgN b z j) i = sm (fgN b z j) (i * (M * b)) (M * b) := fun i h1 h2 => blk_sm hb hM h1 (by omega) j
  rw [sm_congr _ e, show (1 : Nat) = 0 + 1 from rfl, sm_shift]
  refine sm_congr _ (fun i _ _ => ?_)
  rw [Nat.add_mul, Nat.one_mul, Nat.add_comm]
theorem dif3 {q n : Nat} (hq : q < 2 ^ 30) (hn : n < 2 ^ 30) : ((nI q - nI n = 0) ↔ q = n) ∧ (0 ≤ nI q - nI n ↔ n ≤ q) ∧ (nI q - nI n ≤ 0 ↔ q ≤ n) ∧ (¬ n ≤ q → -(nI q - nI n) = nI (n - q)) := by
  have ht := pk_sub_toInt hq hn
  refine ⟨?_, ?_, ?_, fun h => ?_⟩
  · rw [← Int32.toInt_inj, ht, show (0 : Int32).toInt = 0 from rfl]; omega
  · rw [Int32.le_iff_toInt_le, ht, show (0 : Int32).toInt = 0 from rfl]; omega
  · rw [Int32.le_iff_toInt_le, ht, show (0 : Int32).toInt = 0 from rfl]; omega
  · rw [← pk_sub (by omega)]
    exact Int32.neg_sub
theorem amt {q n : Nat} (hq : q < 2 ^ 30) (hn : n < 2 ^ 30) : (if 0 ≤ (nI q - nI n) then nI q - nI n else -(nI q - nI n) : Int32) = nI (if q ≤ n then n - q else q - n) := by
  obtain ⟨h1, h2, h3, h4⟩ := dif3 hq hn
  by_cases hc : n ≤ q
  · rw [if_pos (h2.mpr hc), pk_sub hc]
    by_cases hd : q ≤ n
    · rw [if_pos hd, show q - n = n - q by omega]
    · rw [if_neg hd]
  · rw [if_neg (fun z => hc (h2.mp z)), h4 hc, if_pos (by omega)]
section FGR
variable {ro : pm_RO} {Q : Option Value → pm_M → Prop} {lw : Nat → Nat}
theorem pdb {b z n : Nat} (hb2 : 2 ≤ b) (hb : b ≤ 36) (hn : n < 50000) : paidN b z n < 2000000 := by
  rcases Nat.eq_zero_or_pos n with h | h
  · subst h; rw [paid_0]; decide
  · have := paid_lt hb2 z h
    have h2 : b * n ≤ 36 * n := Nat.mul_le_mul_right n hb
    omega
theorem r_fig44 (hO : OKL lw) {mem : pm_M} (hL : LR mem lw) {from' w E : Nat} {x1 : Int32} (hw : w ≤ 3) (hE : from' * lw 0 = E) (hE2 : E < 50000) {R : Nat × Nat × Nat × Nat} (k : Q (some (.int (nI (bt4 R w)))) mem) : ∀ (c n al be ab best far : Nat) (x8 : Int32), n + c = E → far < 2000001 → x8 = (if far = 0 then -1 else nI (far - 1)) → fgo (lw 0) (lw 1) c n al be ab best far = R → ∀ {d10 d11 : Value}, pm_Ex ro m_X10_figuresOf 44 [.ref 33, .int x1, .int (nI w), .int (nI from'), .int (nI al), .int (nI be), .int (nI ab), .int (nI best), .int x8, .int (nI n), d10, d11] [] mem Q := by
  intro c
  induction c with
  | zero =>
    intro n al be ab best far x8 hn hfar h8 hR d10 d11
    refine bk_X10_figuresOf_44 ?_
    rw [hL 0 (by decide), pk_mul, hE]
    refine ⟨fun _ => ?_, fun q => absurd (nI_le (by omega) (by omega)) q⟩
    have hR : (al, be, ab, best) = R := hR
    rw [← hR] at k
    rcases (show w = 0 ∨ w = 1 ∨ w = 2 ∨ w = 3 by omega) with rfl | rfl | rfl | rfl
    · rw [if_neg (by decide)]; exact k
    · rw [if_pos (by decide), if_neg (by decide)]; exact k
    · rw [if_pos (by decide), if_pos (by decide), if_neg (by decide)]; exact k
    · rw [if_pos (by decide), if_pos (by decide), if_pos (by decide)]; exact k
  | succ c ih =>
    intro n al be ab best far x8 hn hfar h8 hR d10 d11
    refine bk_X10_figuresOf_44 ?_
    rw [hL 0 (by decide), pk_mul, hE]
    refine ⟨fun q => ?_, fun _ => ?_⟩
    · rw [nI_leI (by omega) (by omega)] at q; omega
    refine pdR hO hL (by omega) (bk_X10_figuresOf_63 ?_)
    have hpb := pdb (z := lw 1) hO.1 hO.2.1 (show n < 50000 by omega)
    have e : fgo (lw 0) (lw 1) (c + 1) n al be ab best far = fgo (lw 0) (lw 1) c (n + 1) (al + fgN (lw 0) (lw 1) 0 n) (be + fgN (lw 0) (lw 1) 1 n) (ab + fgN (lw 0) (lw 1) 2 n) (if far < dN (lw 0) (lw 1) n + 1 then n else best) (if far < dN (lw 0) (lw 1) n + 1 then dN (lw 0) (lw 1) n + 1 else far) := rfl
    rw [e] at hR
    have eP : PD lw n = paidN (lw 0) (lw 1) n := rfl
    have hd : dN (lw 0) (lw 1) n < 2000000 := by unfold dN; split <;> omega
    obtain ⟨h1, h2, h3, h4⟩ := dif3 (q := PD lw n) (n := n) (by omega) (by omega)
    have ed : nI (if PD lw n ≤ n then n - PD lw n else PD lw n - n) = nI (dN (lw 0) (lw 1) n) := rfl
    have z0 : zb (¬ (¬ (nI (PD lw n) - nI n) = 0)) = nI (fgN (lw 0) (lw 1) 0 n) := by
      unfold fgN
      rw [if_pos rfl]
      by_cases hc : paidN (lw 0) (lw 1) n = n
      · rw [if_pos hc, zb_pos (not_not_intro (h1.mpr hc))]; rfl
      · rw [if_neg hc, zb_neg (fun z => z (fun y => hc (h1.mp y)))]; rfl
    have z1 : zb (¬ (0 ≤ (nI (PD lw n) - nI n))) = nI (fgN (lw 0) (lw 1) 1 n) := by
      unfold fgN
      rw [if_neg (by decide), if_pos rfl]
      by_cases hc : paidN (lw 0) (lw 1) n < n
      · rw [if_pos hc, zb_nneg (fun z => by have := h2.mp z; omega)]; rfl
      · rw [if_neg hc, zb_neg (fun z => z (h2.mpr (by omega)))]; rfl
    have z2 : zb (¬ ((nI (PD lw n) - nI n) ≤ 0)) = nI (fgN (lw 0) (lw 1) 2 n) := by
      unfold fgN
      rw [if_neg (by decide), if_neg (by decide)]
      by_cases hc : n < paidN (lw 0) (lw 1) n
      · rw [if_pos hc, zb_nneg (fun z => by have := h3.mp z; omega)]; rfl
      · rw [if_neg hc, zb_neg (fun z => z (h3.mpr (by omega)))]; rfl
    rw [z0, z1, z2, amt (by omega) (by omega), ed, nI_add, nI_add, nI_add, nI_1]
    have hle : nI (dN (lw 0) (lw 1) n) ≤ x8 ↔ ¬ far < dN (lw 0) (lw 1) n + 1 := by
      rw [h8]
      by_cases hf : far = 0
      · rw [if_pos hf, Int32.le_iff_toInt_le, nI_toInt (by omega), show (-1 : Int32).toInt = -1 from rfl]; omega
      · rw [if_neg hf, nI_leI (by omega) (by omega)]; omega
    by_cases hc : far < dN (lw 0) (lw 1) n + 1
    · rw [if_neg (fun z => (hle.mp z) hc), if_neg (fun z => (hle.mp z) hc)]
      rw [if_pos hc, if_pos hc] at hR
      exact ih (n + 1) _ _ _ _ _ _ (by omega) (by omega) (by rw [if_neg (by omega), Nat.add_sub_cancel]) hR
    · rw [if_pos (hle.mpr hc), if_pos (hle.mpr hc)]
      rw [if_neg hc, if_neg hc] at hR
      exact ih (n + 1) _ _ _ _ _ _ (by omega) hfar h8 hR
theorem pow_b {b m : Nat} (hb2 : 2 ≤ b) (hb : b ≤ 36) (hm1 : 1 ≤ m) (hm : m ≤ 3) : b ^ (m - 1) * b = b ^ m ∧ b ^ m < 50000 ∧ b ^ (m - 1) ≤ b ^ m := by
  refine ⟨?_, ?_, Nat.pow_le_pow_right (by omega) (by omega)⟩
  · rw [← Nat.pow_succ]; congr 1; omega
  · have h1 : b ^ m ≤ 36 ^ m := Nat.pow_le_pow_left hb m
    have h2 : 36 ^ m ≤ 36 ^ 3 := Nat.pow_le_pow_right (by decide) hm
    have h3 : 36 ^ 3 = 46656 := by decide
    omega
theorem r_figuresOf (hO : OKL lw) {mem : pm_M} (hL : LR mem lw) {m w : Nat} (hm1 : 1 ≤ m) (hm : m ≤ 3) (hw : w ≤ 3) (k : Q (some (.int (nI (fgs lw m w)))) mem) : pm_Ex ro m_X10_figuresOf 0 [.ref 33, .int (nI m), .int (nI w), .null, .null, .null, .null, .null, .null, .null, .null, .null] [] mem Q := by
  obtain ⟨p1, p2, p3⟩ := pow_b hO.1 hO.2.1 hm1 hm
  refine bk_X10_figuresOf_0 ?_
  have key : ∀ (c i : Nat), i + c = m → 1 ≤ i → pm_Ex ro m_X10_figuresOf 5 [.ref 33, .int (nI m), .int (nI w), .int (nI (lw 0 ^ (i - 1))), .int (nI i), .null, .null, .null, .null, .null, .null, .null] [] mem Q := by
    intro c
    induction c with
    | zero =>
      intro i hi h1
      have : i = m := by omega
      subst this
      refine bk_X10_figuresOf_5 ⟨fun _ => ?_, fun q => absurd (nI_le (Nat.le_refl _) (by omega)) q⟩
      exact r_fig44 (R := fgo (lw 0) (lw 1) (lw 0 ^ i - lw 0 ^ (i - 1)) (lw 0 ^ (i - 1)) 0 0 0 (lw 0 ^ (i - 1)) 0) hO hL hw p1 p2 k _ _ 0 0 0 _ 0 (-1) (by omega) (by decide) rfl rfl
    | succ c ih =>
      intro i hi h1
      refine bk_X10_figuresOf_5 ⟨fun q => ?_, fun _ => ?_⟩
      · rw [nI_leI (by omega) (by omega)] at q; omega
      rw [hL 0 (by decide), pk_mul, nI_1]
      have := ih (i + 1) (by omega) (by omega)
      rw [show lw 0 ^ (i + 1 - 1) = lw 0 ^ (i - 1) * lw 0 from by rw [← Nat.pow_succ]; congr 1; omega] at this
      exact this
  have := key (m - 1) 1 (by omega) (Nat.le_refl _)
  exact this
end FGR
