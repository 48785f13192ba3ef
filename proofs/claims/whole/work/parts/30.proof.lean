/-! proof, raised -/
def gnI (tx : Nat → Nat) (u : Nat) (lw : Nat → Nat) (s : Nat) : Int32 := nI (SMt tx u s) - nI (PD lw (SMt tx u s))
/-- of the first c + 1 sets the one with the greatest gain -/
def prb (gn : Nat → Int32) (many : Nat) : Nat → Nat
  | 0 => 1
  | c + 1 => if pc8 (c + 2) ≤ many then (if gn (c + 2) ≤ gn (prb gn many c) then prb gn many c else c + 2) else prb gn many c
theorem prb_le (gn : Nat → Int32) (many : Nat) : ∀ c, 1 ≤ prb gn many c ∧ prb gn many c ≤ c + 1 := by
  intro c
  induction c with
  | zero => exact ⟨Nat.le_refl _, Nat.le_refl _⟩
  | succ c ih =>
    simp only [prb]
    split
    · split <;> omega
    · omega
theorem pc8_le (s : Nat) (hs : s < 256) : pc8 s ≤ 8 := by
  have key : ∀ s, s < 256 → pc8 s ≤ 8 := by decide +kernel
  exact key s hs
section PRF
variable {ro : pm_RO} {Q : Option Value → pm_M → Prop} {tx : Nat → Nat} {u : Nat} {lw ow : Nat → Nat} {sf : Nat → Int32} {sl : Nat → Nat} {si : Nat → Nat → Int32} {lt : Int32}
theorem c_gain (hO : OKL lw) {mem : pm_M} (hI : IC mem tx u lw ow sf sl si lt) {many : Nat} (hm : many ≤ 8) (hG1 : 1 ≤ pzG tx u) (k : ∀ mem' : pm_M, Fr [6, 7, 8] mem mem' → IC mem' tx u lw ow sf sl si lt → BI mem' tx u lw → mem' 6 6 = 1 → Q (some (.int (nI (prb (gnI tx u lw) many (2 ^ pzG tx u - 2))))) mem') : pm_Ex ro m_X7_greatestGain 0 [.ref 6, .int (nI many), .null, .null] [] mem Q := by
  have hG := pzG_le tx u
  have hG2 := p2_le hG
  have hG3 : 2 ≤ 2 ^ pzG tx u := by have := Nat.pow_le_pow_right (show 0 < 2 by decide) hG1; simpa using this
  refine bk_X7_greatestGain_0 (sp_bills hO hI (fun m f1 f2 f3 f4 _ => bk_X7_greatestGain_4 ?_))
  have kk := k m f1 f2 f3 f4
  have key : ∀ (e c : Nat), c + 2 + e = 2 ^ pzG tx u → pm_Ex ro m_X7_greatestGain 8 [.ref 6, .int (nI many), .int (nI (prb (gnI tx u lw) many c)), .int (nI (c + 2))] [] m Q := by
    intro e
    induction e with
    | zero =>
      intro c hc
      refine bk_X7_greatestGain_8 ?_
      rw [f2.2.1.1, whl hG]
      refine ⟨fun _ => ?_, fun q => absurd (nI_lt (by omega) (by omega)) q⟩
      rw [show 2 ^ pzG tx u - 2 = c by omega] at kk
      exact kk
    | succ e ih =>
      intro c hc
      have hp := prb_le (gnI tx u lw) many c
      have ih' := ih (c + 1) (by omega)
      simp only [prb] at ih'
      refine bk_X7_greatestGain_8 ?_
      rw [f2.2.1.1, whl hG]
      refine ⟨fun q => ?_, fun _ => ?_⟩
      · rw [nI_ltI (by omega) (by omega)] at q; omega
      refine sp_bc (by omega) (bk_X7_greatestGain_23 ?_)
      have h8 := pc8_le (c + 2) (by omega)
      rw [nI_ltI (by omega) (by omega), nI_1]
      refine ⟨fun q => ?_, fun q => ⟨nI_inb (by omega) (by decide), nI_inb (by omega) (by decide), nI_inb (by omega) (by decide), nI_inb (by omega) (by decide), ?_⟩⟩
      · rw [if_neg (by omega)] at ih'; exact ih'
      · rw [if_pos (by omega)] at ih'
        rw [nI_clamp (by omega), nI_clamp (by omega), (f3 (c + 2) (by omega) (by omega)).1, (f3 (c + 2) (by omega) (by omega)).2, (f3 (prb (gnI tx u lw) many c) (by omega) (by omega)).1, (f3 (prb (gnI tx u lw) many c) (by omega) (by omega)).2]
        change pm_Ex ro m_X7_greatestGain 8 [.ref 6, .int (nI many), .int (if gnI tx u lw (c + 2) ≤ gnI tx u lw (prb (gnI tx u lw) many c) then nI (prb (gnI tx u lw) many c) else nI (c + 2) : Int32), .int (nI (c + 2 + 1))] [] m Q
        by_cases hc2 : gnI tx u lw (c + 2) ≤ gnI tx u lw (prb (gnI tx u lw) many c)
        · rw [if_pos hc2] at ih' ⊢; exact ih'
        · rw [if_neg hc2] at ih' ⊢; exact ih'
  exact key (2 ^ pzG tx u - 2) 0 (by omega)
/-- the reference's gain, whatever the prices are -/
theorem r_gainG (hO : OKL lw) {mem : pm_M} (hL : LR mem lw) {P : Nat → Nat} {G s : Nat} (hG : G ≤ 8) (hP : ∀ j, j < G → P j ≤ 2000) (h8 : mem 33 8 = nI G) (h39 : ∀ j, j < G → mem 39 j = nI (P j)) (hs : s < 256) (k : Q (some (.int (nI (SM P G s) - nI (PD lw (SM P G s))))) mem) : pm_Ex ro m_X10_gainBy 0 [.ref 33, .int (nI s)] [] mem Q := by
  have hle := SM_le (M := 2000) G hP s
  refine bk_X10_gainBy_0 (r_sumG hG h8 h39 hs (bk_X10_gainBy_5 (r_sumG hG h8 h39 hs (bk_X10_gainBy_11 ?_))))
  have : G * 2000 ≤ 8 * 2000 := Nat.mul_le_mul_right _ hG
  exact pdR hO hL (by omega) (bk_X10_gainBy_14 k)
theorem r_gainBy (hO : OKL lw) {mem : pm_M} (hL : LR mem lw) (hR : GR mem tx u) {s : Nat} (hs : s < 256) (k : Q (some (.int (gnI tx u lw s))) mem) : pm_Ex ro m_X10_gainBy 0 [.ref 33, .int (nI s)] [] mem Q :=
  r_gainG hO hL (P := pzP tx u) (pzG_le tx u) (fun j hj => Nat.le_trans (pzP_ok tx u j hj).2 (by decide)) hR.1 hR.2.2 hs k
def prfS (tx : Nat → Nat) (u : Nat) (lw : Nat → Nat) (many what : Nat) : Int32 := if pzG tx u = 0 then -100003 else if what = 0 then gnI tx u lw (prb (gnI tx u lw) many (2 ^ pzG tx u - 2)) else nI (prb (gnI tx u lw) many (2 ^ pzG tx u - 2))
theorem r_proofOf (hO : OKL lw) {mem : pm_M} (hL : LR mem lw) (hR : GR mem tx u) {many what : Nat} (hm1 : 1 ≤ many) (hm : many ≤ 8) (hw : what ≤ 1) (k : Q (some (.int (prfS tx u lw many what))) mem) : pm_Ex ro m_X10_proofOf 0 [.ref 33, .int (nI many), .int (nI what), .null, .null] [] mem Q := by
  have hG := pzG_le tx u
  have hG2 := p2_le hG
  unfold prfS at k
  refine bk_X10_proofOf_0 ?_
  by_cases hG0 : pzG tx u = 0
  · rw [if_pos hG0] at k
    refine bk_X10_proofOf_5 ?_
    rw [hR.1, hG0]
    exact ⟨fun _ => ⟨fun q => absurd rfl q, fun _ => k⟩, fun q => absurd (by decide) q⟩
  rw [if_neg hG0] at k
  have hG3 : 2 ≤ 2 ^ pzG tx u := by have := Nat.pow_le_pow_right (show 0 < 2 by decide) (show 1 ≤ pzG tx u by omega); simpa using this
  have key : ∀ (e c : Nat), c + 2 + e = 2 ^ pzG tx u → pm_Ex ro m_X10_proofOf 5 [.ref 33, .int (nI many), .int (nI what), .int (nI (prb (gnI tx u lw) many c)), .int (nI (c + 2))] [] mem Q := by
    intro e
    induction e with
    | zero =>
      intro c hc
      have hp := prb_le (gnI tx u lw) many c
      refine bk_X10_proofOf_5 ?_
      rw [hR.1, whl hG]
      refine ⟨fun _ => ⟨fun _ => ⟨fun q => ?_, fun q => ?_⟩, fun q => absurd (fI_ne (by omega)) q⟩, fun q => absurd (nI_lt (by omega) (by omega)) q⟩
      · rw [nI_eq0 (by omega)] at q
        rw [if_neg q, show 2 ^ pzG tx u - 2 = c by omega] at k
        exact k
      · have q := Decidable.of_not_not q
        rw [nI_eq0 (by omega)] at q
        rw [if_pos q, show 2 ^ pzG tx u - 2 = c by omega] at k
        exact r_gainBy hO hL hR (by omega) (bk_X10_proofOf_74 k)
    | succ e ih =>
      intro c hc
      have hp := prb_le (gnI tx u lw) many c
      have ih' := ih (c + 1) (by omega)
      simp only [prb] at ih'
      refine bk_X10_proofOf_5 ?_
      rw [hR.1, whl hG]
      refine ⟨fun q => ?_, fun _ => ?_⟩
      · rw [nI_ltI (by omega) (by omega)] at q; omega
      refine sp_ones (by omega) (bk_X10_proofOf_19 ?_)
      have h8 := pc8_le (c + 2) (by omega)
      rw [nI_ltI (by omega) (by omega), nI_1]
      refine ⟨fun q => ?_, fun q => ⟨fun z => absurd z (fI_ne (by omega)), fun _ => ?_⟩⟩
      · rw [if_neg (by omega)] at ih'; exact ih'
      · rw [if_pos (by omega)] at ih'
        refine r_gainBy hO hL hR (by omega) (bk_X10_proofOf_34 (r_gainBy hO hL hR (by omega) (bk_X10_proofOf_39 ?_)))
        rw [nI_1]
        by_cases hc2 : gnI tx u lw (c + 2) ≤ gnI tx u lw (prb (gnI tx u lw) many c)
        · rw [if_pos hc2] at ih' ⊢; exact ih'
        · rw [if_neg hc2] at ih' ⊢; exact ih'
  refine bk_X10_proofOf_5 ?_
  rw [hR.1, whl hG]
  refine ⟨fun q => ?_, fun _ => ?_⟩
  · rw [show (1 : Int32) = nI 1 from rfl, nI_ltI (by omega) (by decide)] at q; omega
  rw [show (1 : Int32) = nI 1 from rfl]
  refine sp_ones (by decide) (bk_X10_proofOf_19 ⟨fun q => ?_, fun _ => ⟨fun _ => ?_, fun q => absurd rfl q⟩⟩)
  · rw [show pc8 1 = 1 from by decide +kernel, nI_ltI (by omega) (by decide)] at q; omega
  · exact key (2 ^ pzG tx u - 2) 0 (by omega)
def prfA (tx : Nat → Nat) (u : Nat) (lw : Nat → Nat) (a b : Int32) : Int32 := if (1 ≤ a ∧ a ≤ 8) ∧ 0 ≤ b ∧ b ≤ 1 then prfS tx u lw a.toNatClampNeg b.toNatClampNeg else -100002
theorem c_proof (hO : OKL lw) {mem : pm_M} (hI : IC mem tx u lw ow sf sl si lt) {a b : Int32} (k : ∀ mem' : pm_M, Fr CT mem mem' → IC mem' tx u lw ow sf sl si lt → Q (some (.int (prfA tx u lw a b))) mem') : pm_Ex ro m_X9_proof 0 [.ref 0, .int a, .int b, .null] [] mem Q := by
  have hG := pzG_le tx u
  have hG2 := p2_le hG
  unfold prfA at k
  refine bk_X9_proof_0 ⟨fun h1 => ⟨fun h2 => ?_, fun h2 => ?_⟩, fun h1 => ?_⟩
  · have g1 := rng_iff.mp h1
    have g2 := rng_iff.mp h2
    rw [if_pos ⟨g1, g2⟩] at k
    obtain ⟨many, hm1, hm, rfl⟩ := rng1 (n := 8) (by decide) g1
    obtain ⟨w, hw, rfl⟩ := rng' (n := 1) (by decide) g2
    rw [nI_clamp (by omega), nI_clamp (by omega)] at k
    unfold prfS at k
    rw [hI.2.1.1]
    refine ⟨fun q => ?_, fun q => ?_⟩
    · rw [nI_eq0 (by omega)] at q
      rw [if_neg q] at k
      refine c_gain hO hI hm (by omega) (fun m f1 f2 f3 f4 => bk_X9_proof_43 ?_)
      have hp := prb_le (gnI tx u lw) many (2 ^ pzG tx u - 2)
      have hG3 : 2 ≤ 2 ^ pzG tx u := by have := Nat.pow_le_pow_right (show 0 < 2 by decide) (show 1 ≤ pzG tx u by omega); simpa using this
      refine ⟨fun z => ?_, fun z => ?_⟩
      · rw [nI_eq0 (by omega)] at z
        rw [if_neg z] at k
        exact k m (f1.CT (by decide)) f2
      · have z := Decidable.of_not_not z
        rw [nI_eq0 (by omega)] at z
        rw [if_pos z] at k
        refine bk_X7_gainOf_0 (c_sumOf hO f2 (by omega) (fun m2 g1 g2 _ _ => bk_X7_gainOf_5 (c_paidOf hO g2 (by omega) (by omega) (fun m3 i1 i2 _ _ => bk_X7_gainOf_10 (bk_X9_proof_56 ?_)))))
        exact k m3 (((f1.tr g1).tr i1).CT (by decide)) i2
    · have q := Decidable.of_not_not q
      rw [nI_eq0 (by omega)] at q
      rw [if_pos q] at k
      exact k mem (Fr.rf _ _) hI
  · rw [if_neg (fun q => h2 (rng_iff.mpr q.2))] at k; exact k mem (Fr.rf _ _) hI
  · rw [if_neg (fun q => h1 (rng_iff.mpr q.1))] at k; exact k mem (Fr.rf _ _) hI
theorem ag_proof (hO : OK lw ow sf sl) (a b : Int32) : AGi ro m_X9_proof [.ref 0, .int a, .int b, .null] m_X10_proof [.ref 33, .int a, .int b] (tx, u, lw, ow, sf, sl, si, lt) := by
  refine ⟨prfA tx u lw a b, (tx, u, lw, ow, sf, sl, si, lt), hO, fun m Q hI k => c_proof hO.1 hI k, fun m Q hI k => ?_⟩
  have hI : IR m tx u lw ow sf sl si lt := hI
  unfold prfA at k
  refine bk_X10_proof_0 (r_reads hI (fun m1 f1 f2 f3 => bk_X10_proof_4 ⟨fun g1 => ⟨fun g2 => ?_, fun h2 => ?_⟩, fun h1 => ?_⟩))
  · rw [if_pos ⟨g1, g2⟩] at k
    obtain ⟨many, hm1, hm, rfl⟩ := rng1 (n := 8) (by decide) g1
    obtain ⟨w, hw, rfl⟩ := rng' (n := 1) (by decide) g2
    rw [nI_clamp (by omega), nI_clamp (by omega)] at k
    exact r_proofOf hO.1 f2.2.1 f3 hm1 hm hw (bk_X10_proof_30 (k m1 f1 f2))
  · rw [if_neg (fun q => h2 q.2)] at k; exact k m1 f1 f2
  · rw [if_neg (fun q => h1 q.1)] at k; exact k m1 f1 f2
/-- of the first n sets those that c tells gain at most d -/
def pfS (lw : Nat → Nat) (f : Nat → Nat) (d : Int32) (c : Nat → Bool) : Nat → Bool
  | 0 => true
  | n + 1 => pfS lw f d c n && (!(c (n + 1)) || decide (nI (f (n + 1)) - nI (PD lw (f (n + 1))) ≤ d))
theorem pfS_no {f : Nat → Nat} {d : Int32} {c : Nat → Bool} {n : Nat} (h : pfS lw f d c n = false) : ∀ m, n ≤ m → pfS lw f d c m = false := by
  intro m hm
  induction m with
  | zero => have : n = 0 := by omega
            rw [this] at h; exact h
  | succ m ih =>
    rcases Nat.lt_or_ge m n with z | z
    · have : n = m + 1 := by omega
      rw [← this]; exact h
    · simp only [pfS]; rw [ih z]; rfl
theorem pfS_split (f : Nat → Nat) (d : Int32) (g more : Nat) : ∀ n, pfS lw (fun s => f s + (if s.testBit g then more else 0)) d (fun _ => true) n = (pfS lw f d (fun s => !s.testBit g) n && pfS lw (fun s => f s + more) d (fun s => s.testBit g) n) := by
  intro n
  induction n with
  | zero => rfl
  | succ n ih =>
    simp only [pfS]
    rw [ih]
    rcases Bool.eq_false_or_eq_true ((n + 1).testBit g) with hb | hb
    · simp only [hb, Bool.not_true, Bool.not_false, Bool.false_or, Bool.true_or, Bool.and_true, if_pos]
      rw [Bool.and_assoc]
    · simp only [hb, Bool.not_true, Bool.not_false, Bool.false_or, Bool.true_or, Bool.and_true, Bool.false_eq_true, if_false, Nat.add_zero]
      rw [Bool.and_assoc, Bool.and_comm (pfS lw (fun s => f s + more) d (fun s => s.testBit g) n), ← Bool.and_assoc]
theorem maskB {s g : Nat} (hs : s < 256) (hg : g < 8) : (((nI s &&& nI (2 ^ g)) = 0) ↔ s.testBit g = false) ∧ (((nI s &&& nI (2 ^ g)) = nI (2 ^ g)) ↔ s.testBit g = true) := by
  have key : ∀ g, g < 8 → ∀ s, s < 256 → (((nI s &&& nI (2 ^ g)) = 0) ↔ s.testBit g = false) ∧ (((nI s &&& nI (2 ^ g)) = nI (2 ^ g)) ↔ s.testBit g = true) := by decide +kernel
  exact key g hg s hs
theorem c_isProof (hO : OKL lw) {mem : pm_M} (hI : IC mem tx u lw ow sf sl si lt) (hB : BI mem tx u lw) {g more : Nat} (hg : g < 8) (hmore : more ≤ 99) {d : Int32} (t : Bool) (k : Q (some (.int (bif pfS lw (fun s => SMt tx u s + more) d (fun s => s.testBit g == t) (2 ^ pzG tx u - 1) then 1 else 0))) mem) : pm_Ex ro m_X7_isProof 0 [.ref 6, .int (bif t then nI (2 ^ g) else 0), .int (nI (2 ^ g)), .int (nI more), .int d, .null, .null] [] mem Q := by
  have hG := pzG_le tx u
  have hG2 := p2_le hG
  have hG1 := p2_pos (pzG tx u)
  refine bk_X7_isProof_0 ?_
  have key : ∀ (e n : Nat), n + 1 + e = 2 ^ pzG tx u → pfS lw (fun s => SMt tx u s + more) d (fun s => s.testBit g == t) n = true → ∀ {d6 : Value}, pm_Ex ro m_X7_isProof 3 [.ref 6, .int (bif t then nI (2 ^ g) else 0), .int (nI (2 ^ g)), .int (nI more), .int d, .int (nI (n + 1)), d6] [] mem Q := by
    intro e
    induction e with
    | zero =>
      intro n hn hp d6
      refine bk_X7_isProof_3 ?_
      rw [hI.2.1.1, whl hG]
      refine ⟨fun _ => ?_, fun q => absurd (nI_lt (by omega) (by omega)) q⟩
      rw [show 2 ^ pzG tx u - 1 = n by omega, hp] at k
      exact k
    | succ e ih =>
      intro n hn hp d6
      have ih' := ih (n + 1) (by omega)
      simp only [pfS, hp, Bool.true_and] at ih'
      refine bk_X7_isProof_3 ?_
      rw [hI.2.1.1, whl hG]
      have hc : ((nI (n + 1) &&& nI (2 ^ g)) = (bif t then nI (2 ^ g) else 0)) ↔ (n + 1).testBit g = t := by
        cases t with
        | true => exact (maskB (by omega) hg).2
        | false => exact (maskB (by omega) hg).1
      refine ⟨fun q => ?_, fun _ => ⟨fun q => ?_, fun q => ⟨nI_inb (by omega) (by decide), ?_⟩⟩⟩
      · rw [nI_ltI (by omega) (by omega)] at q; omega
      · rw [hc] at q
        rw [nI_1]
        refine ih' ?_
        have : ((n + 1).testBit g == t) = false := by simpa using q
        rw [this]; rfl
      · have q := hc.mp (Decidable.of_not_not q)
        have hq : ((n + 1).testBit g == t) = true := by simpa using q
        have hle := SMt_le tx u (n + 1)
        rw [nI_clamp (by omega), (hB (n + 1) (by omega) (by omega)).1, nI_add]
        refine pdC hO hI.2.2.1 (by omega) (bk_X7_isProof_45 ⟨fun z => ?_, fun z => ?_⟩)
        · rw [nI_1]
          refine ih' ?_
          rw [hq, decide_eq_true z]; rfl
        · have : pfS lw (fun s => SMt tx u s + more) d (fun s => s.testBit g == t) (n + 1) = false := by
            simp only [pfS]
            rw [hp, hq, decide_eq_false z]; rfl
          rw [pfS_no this (2 ^ pzG tx u - 1) (by omega)] at k
          exact k
  exact key (2 ^ pzG tx u - 1) 0 (by omega) rfl
def rsA (A : Bool) (B : Nat → Bool) : Nat → Nat → Int32
  | 0, _ => -1
  | c + 1, m => bif A && B m then nI m else rsA A B c (m + 1)
theorem rsA_s (A : Bool) (B : Nat → Bool) (c m : Nat) : rsA A B (c + 1) m = bif A && B m then nI m else rsA A B c (m + 1) := rfl
theorem rsA_no (B : Nat → Bool) : ∀ c m, rsA false B c m = -1 := by
  intro c
  induction c with
  | zero => intro m; rfl
  | succ c ih => intro m; simp only [rsA, Bool.false_and, cond_false]; exact ih _
def raisS (tx : Nat → Nat) (u : Nat) (lw : Nat → Nat) (g : Nat) (d : Int32) : Int32 := rsA (pfS lw (SMt tx u) d (fun s => !s.testBit g) (2 ^ pzG tx u - 1)) (fun more => pfS lw (fun s => SMt tx u s + more) d (fun s => s.testBit g) (2 ^ pzG tx u - 1)) 100 0
theorem pfS_congr {f f' : Nat → Nat} {d : Int32} {c c' : Nat → Bool} (h1 : ∀ s, f s = f' s) (h2 : ∀ s, c s = c' s) : ∀ n, pfS lw f d c n = pfS lw f' d c' n := by
  have e1 : f = f' := funext h1
  have e2 : c = c' := funext h2
  intro n; rw [e1, e2]
theorem c_raise (hO : OKL lw) {mem : pm_M} (hI : IC mem tx u lw ow sf sl si lt) {g : Nat} (hg : g < pzG tx u) {d : Int32} (k : ∀ mem' : pm_M, Fr [6, 7, 8] mem mem' → IC mem' tx u lw ow sf sl si lt → Q (some (.int (raisS tx u lw g d))) mem') : pm_Ex ro m_X7_leastRaise 0 [.ref 6, .int (nI g), .int d, .null, .null] [] mem Q := by
  have hG := pzG_le tx u
  refine bk_X7_leastRaise_0 (sp_bills hO hI (fun m f1 f2 f3 f4 _ => bk_X7_leastRaise_4 ?_))
  have kk := k m f1 f2
  unfold raisS at kk
  rw [shl1 (by omega)]
  refine c_isProof (g := g) (more := 0) hO f2 f3 (by omega) (by decide) false (bk_X7_leastRaise_16 ?_)
  rw [pfS_congr (lw := lw) (f := fun s => SMt tx u s + 0) (f' := SMt tx u) (c := fun s => s.testBit g == false) (c' := fun s => !s.testBit g) (fun s => rfl) (fun s => by cases s.testBit g <;> rfl)]
  generalize hA : pfS lw (SMt tx u) d (fun s => !s.testBit g) (2 ^ pzG tx u - 1) = A at kk ⊢
  cases A with
  | false =>
    refine ⟨fun q => absurd rfl q, fun _ => ?_⟩
    rw [rsA_no] at kk
    exact kk
  | true =>
    refine ⟨fun _ => ?_, fun q => absurd (by decide) q⟩
    have key : ∀ (c n : Nat), n + c = 100 → rsA true (fun more => pfS lw (fun s => SMt tx u s + more) d (fun s => s.testBit g) (2 ^ pzG tx u - 1)) c n = rsA true (fun more => pfS lw (fun s => SMt tx u s + more) d (fun s => s.testBit g) (2 ^ pzG tx u - 1)) 100 0 → pm_Ex ro m_X7_leastRaise 24 [.ref 6, .int (nI g), .int d, .int (nI (2 ^ g)), .int (nI n)] [] m Q := by
      intro c
      induction c with
      | zero =>
        intro n hn he
        have : n = 100 := by omega
        subst this
        rw [← he] at kk
        exact bk_X7_leastRaise_24 ⟨fun _ => kk, fun q => absurd (by decide) q⟩
      | succ c ih =>
        intro n hn he
        refine bk_X7_leastRaise_24 ⟨fun q => ?_, fun _ => ?_⟩
        · rw [show (99 : Int32) = nI 99 from rfl, nI_ltI (by decide) (by omega)] at q; omega
        refine c_isProof (g := g) (more := n) hO f2 f3 (by omega) (by omega) true (bk_X7_leastRaise_40 ?_)
        rw [pfS_congr (lw := lw) (f := fun s => SMt tx u s + n) (f' := fun s => SMt tx u s + n) (c := fun s => s.testBit g == true) (c' := fun s => s.testBit g) (fun s => rfl) (fun s => by cases s.testBit g <;> rfl)]
        rw [rsA_s _ _ c n, Bool.true_and] at he
        generalize pfS lw (fun s => SMt tx u s + n) d (fun s => s.testBit g) (2 ^ pzG tx u - 1) = B at he ⊢
        cases B with
        | false =>
          refine ⟨fun _ => ?_, fun q => absurd rfl q⟩
          rw [nI_1]
          exact ih (n + 1) (by omega) he
        | true =>
          refine ⟨fun q => absurd q (by decide), fun _ => ?_⟩
          simp only [cond_true] at he
          rw [← he] at kk
          exact kk
    exact key 100 0 rfl rfl
theorem SM_raise (P : Nat → Nat) (g more s : Nat) : ∀ G, SM (updN P g (P g + more)) G s = SM P G s + (if g < G ∧ s.testBit g then more else 0) := by
  intro G
  induction G with
  | zero => simp [SM]
  | succ G ih =>
    simp only [SM]
    rw [ih]
    by_cases hg : G = g
    · subst hg
      rw [if_neg (show ¬ (G < G ∧ s.testBit G = true) by omega)]
      cases hb : s.testBit G with
      | true => simp [updN]; omega
      | false => simp
    · have e : updN P g (P g + more) G = P G := by simp [updN, hg]
      rw [e]
      by_cases hb : g < G ∧ s.testBit g = true
      · rw [if_pos hb, if_pos (show g < G + 1 ∧ s.testBit g = true from ⟨by omega, hb.2⟩)]; omega
      · rw [if_neg hb, if_neg (show ¬ (g < G + 1 ∧ s.testBit g = true) from fun q => hb ⟨by omega, q.2⟩)]; omega
theorem r_isProof (hO : OKL lw) {mem : pm_M} (hL : LR mem lw) {P : Nat → Nat} {G : Nat} (hG : G ≤ 8) (hP : ∀ j, j < G → P j ≤ 2000) (h8 : mem 33 8 = nI G) (h39 : ∀ j, j < G → mem 39 j = nI (P j)) {d : Int32} (k : Q (some (.int (bif pfS lw (SM P G) d (fun _ => true) (2 ^ G - 1) then 1 else 0))) mem) : pm_Ex ro m_X10_isProof 0 [.ref 33, .int d, .null, .null] [] mem Q := by
  have hG2 := p2_le hG
  have hG1 := p2_pos G
  refine bk_X10_isProof_0 ?_
  have key : ∀ (e n : Nat), n + 1 + e = 2 ^ G → pm_Ex ro m_X10_isProof 4 [.ref 33, .int d, .int (bif pfS lw (SM P G) d (fun _ => true) n then 1 else 0), .int (nI (n + 1))] [] mem Q := by
    intro e
    induction e with
    | zero =>
      intro n hn
      refine bk_X10_isProof_4 ?_
      rw [h8, whl hG]
      refine ⟨fun _ => ?_, fun q => absurd (nI_lt (by omega) (by omega)) q⟩
      rw [show 2 ^ G - 1 = n by omega] at k
      refine ⟨?_, k⟩
      cases pfS lw (SM P G) d (fun _ => true) n
      · exact Or.inl rfl
      · exact Or.inr rfl
    | succ e ih =>
      intro n hn
      have ih' := ih (n + 1) (by omega)
      simp only [pfS, Bool.not_true, Bool.false_or] at ih'
      refine bk_X10_isProof_4 ?_
      rw [h8, whl hG]
      refine ⟨fun q => ?_, fun _ => ⟨fun q => ?_, fun q => ?_⟩⟩
      · rw [nI_ltI (by omega) (by omega)] at q; omega
      · rw [nI_1]
        cases hp : pfS lw (SM P G) d (fun _ => true) n with
        | true => rw [hp] at q; exact absurd q (by decide)
        | false => rw [hp] at ih'; exact ih'
      · cases hp : pfS lw (SM P G) d (fun _ => true) n with
        | false => rw [hp] at q; exact absurd rfl q
        | true =>
          rw [hp, Bool.true_and] at ih'
          refine r_gainG hO hL hG hP h8 h39 (by omega) (bk_X10_isProof_21 ?_)
          rw [nI_1]
          have e1 : zb (¬ (d < nI (SM P G (n + 1)) - nI (PD lw (SM P G (n + 1))))) = (bif decide (nI (SM P G (n + 1)) - nI (PD lw (SM P G (n + 1))) ≤ d) then 1 else 0) := by
            by_cases hc : nI (SM P G (n + 1)) - nI (PD lw (SM P G (n + 1))) ≤ d
            · rw [decide_eq_true hc, zb_pos (by rw [Int32.lt_iff_toInt_lt]; rw [Int32.le_iff_toInt_le] at hc; omega)]; rfl
            · rw [decide_eq_false hc, zb_neg (fun z => hc (by rw [Int32.lt_iff_toInt_lt] at z; rw [Int32.le_iff_toInt_le]; omega))]; rfl
          rw [e1]
          exact ih'
  exact key (2 ^ G - 1) 0 (by omega)
theorem r_raisedOf (hO : OKL lw) {mem : pm_M} (hL : LR mem lw) (hR : GR mem tx u) {g : Nat} (hg : g < pzG tx u) {d : Int32} (k : Q (some (.int (raisS tx u lw g d))) mem) : pm_Ex ro m_X10_raisedOf 0 [.ref 33, .int (nI g), .int d, .null, .null, .null] [] mem Q := by
  have hG := pzG_le tx u
  unfold raisS at k
  generalize hA : pfS lw (SMt tx u) d (fun s => !s.testBit g) (2 ^ pzG tx u - 1) = A at k
  generalize hB : (fun more => pfS lw (fun s => SMt tx u s + more) d (fun s => s.testBit g) (2 ^ pzG tx u - 1)) = B at k
  refine bk_X10_raisedOf_0 ⟨nI_inb (by omega) (by decide), ?_⟩
  rw [nI_clamp (by omega)]
  have back : ∀ y : Int32, pm_up (pm_up mem 39 g y) 39 g (mem 39 g) = mem := by
    intro y
    funext t
    by_cases ht : t = 39
    · subst ht
      rw [up_t, up_t]
      funext j
      simp only [upd]
      split
      · next e => rw [e]
      · rfl
    · rw [up_n ht, up_n ht]
  have back0 : pm_up mem 39 g (mem 39 g) = mem := by
    funext t
    by_cases ht : t = 39
    · subst ht
      rw [up_t]
      funext j
      simp only [upd]
      split
      · next e => rw [e]
      · rfl
    · rw [up_n ht]
  have up2 : ∀ y y' : Int32, pm_up (pm_up mem 39 g y) 39 g y' = pm_up mem 39 g y' := by
    intro y y'
    funext t
    by_cases ht : t = 39
    · subst ht
      rw [up_t, up_t, up_t]
      funext j
      simp only [upd]
      split <;> rfl
    · rw [up_n ht, up_n ht, up_n ht]
  have e39 := hR.2.2 g hg
  have key : ∀ (c n : Nat) (m : pm_M), n + c = 100 → (∃ y, m = pm_up mem 39 g y) → rsA A B c n = rsA A B 100 0 → pm_Ex ro m_X10_raisedOf 13 [.ref 33, .int (nI g), .int d, .int (mem 39 g), .int (-1), .int (nI n)] [] m Q := by
    intro c
    induction c with
    | zero =>
      rintro n m hn ⟨y, rfl⟩ he
      have : n = 100 := by omega
      subst this
      refine bk_X10_raisedOf_13 ⟨fun _ => ⟨nI_inb (by omega) (by decide), ?_⟩, fun q => absurd (by decide) q⟩
      rw [nI_clamp (by omega), back]
      rw [← he] at k
      exact k
    | succ c ih =>
      rintro n m hn ⟨y, rfl⟩ he
      refine bk_X10_raisedOf_13 ⟨fun q => ?_, fun _ => ⟨fun q => absurd rfl q, fun _ => ⟨nI_inb (by omega) (by decide), ?_⟩⟩⟩
      · rw [show (100 : Int32) = nI 100 from rfl, nI_leI (by decide) (by omega)] at q; omega
      rw [nI_clamp (by omega), up2, e39, nI_add]
      have hP : ∀ j, j < pzG tx u → updN (pzP tx u) g (pzP tx u g + n) j ≤ 2000 := by
        intro j hj
        have := (pzP_ok tx u j hj).2
        have := (pzP_ok tx u g hg).2
        simp only [updN]
        split <;> omega
      refine r_isProof hO (hL.fr (up_n (by decide))) (P := updN (pzP tx u) g (pzP tx u g + n)) (G := pzG tx u) hG hP (by rw [up_n (by decide)]; exact hR.1) (fun j hj => ?_) (bk_X10_raisedOf_41 ?_)
      · rw [up_t]
        simp only [upd, updN]
        split
        · rfl
        · exact hR.2.2 j hj
      have e1 : pfS lw (SM (updN (pzP tx u) g (pzP tx u g + n)) (pzG tx u)) d (fun _ => true) (2 ^ pzG tx u - 1) = (A && B n) := by
        rw [← hA, ← hB]
        dsimp only
        rw [← pfS_split]
        refine pfS_congr (fun s => ?_) (fun _ => rfl) _
        rw [SM_raise]
        unfold SMt
        congr 1
        by_cases hb : s.testBit g = true
        · rw [if_pos ⟨hg, hb⟩, if_pos hb]
        · rw [if_neg (fun q => hb q.2), if_neg hb]
      rw [e1]
      rw [rsA_s _ _ c n] at he
      cases hab : (A && B n) with
      | false =>
        rw [hab] at he
        rw [cond_false, if_pos rfl, nI_1, ← e39]
        exact ih (n + 1) _ (by omega) ⟨_, rfl⟩ he
      | true =>
        rw [hab] at he
        simp only [cond_true] at he
        rw [if_neg (by decide), nI_1]
        have fin : pm_inb (nI g) 8 = true ∧ Q (some (.int (nI n))) (pm_up (pm_up mem 39 g (nI (pzP tx u g + n))) 39 (nI g).toNatClampNeg (nI (pzP tx u g))) := by
          refine ⟨nI_inb (by omega) (by decide), ?_⟩
          rw [nI_clamp (by omega), ← e39, back]
          rw [← he] at k
          exact k
        exact bk_X10_raisedOf_13 ⟨fun _ => fin, fun _ => ⟨fun _ => fin, fun q => absurd (fI_ne (by omega)) q⟩⟩
  have := key 100 0 mem rfl ⟨mem 39 g, back0.symm⟩ rfl
  exact this
noncomputable def raiA (tx : Nat → Nat) (u : Nat) (lw : Nat → Nat) (a b : Int32) : Int32 := if (0 ≤ a ∧ a ≤ nI (pzG tx u) - 1) ∧ 0 ≤ b ∧ b ≤ 999 then raisS tx u lw a.toNatClampNeg b else -2
theorem c_raised (hO : OKL lw) {mem : pm_M} (hI : IC mem tx u lw ow sf sl si lt) {a b : Int32} (k : ∀ mem' : pm_M, Fr CT mem mem' → IC mem' tx u lw ow sf sl si lt → Q (some (.int (raiA tx u lw a b))) mem') : pm_Ex ro m_X9_raised 0 [.ref 0, .int a, .int b] [] mem Q := by
  have hG := pzG_le tx u
  unfold raiA at k
  refine bk_X9_raised_0 ?_
  rw [hI.2.1.1]
  refine ⟨fun h1 => ⟨fun h2 => ?_, fun h2 => ?_⟩, fun h1 => ?_⟩
  · have g1 := rng_iff.mp h1
    have g2 := rng_iff.mp h2
    rw [if_pos ⟨g1, g2⟩] at k
    obtain ⟨g, hg, rfl⟩ := rngP (by omega) g1
    rw [nI_clamp (by omega)] at k
    exact c_raise hO hI hg (fun m f1 f2 => bk_X9_raised_31 (k m (f1.CT (by decide)) f2))
  · rw [if_neg (fun q => h2 (rng_iff.mpr q.2))] at k; exact k mem (Fr.rf _ _) hI
  · rw [if_neg (fun q => h1 (rng_iff.mpr q.1))] at k; exact k mem (Fr.rf _ _) hI
theorem ag_raised (hO : OK lw ow sf sl) (a b : Int32) : AGi ro m_X9_raised [.ref 0, .int a, .int b] m_X10_raised [.ref 33, .int a, .int b] (tx, u, lw, ow, sf, sl, si, lt) := by
  have hG := pzG_le tx u
  refine ⟨raiA tx u lw a b, (tx, u, lw, ow, sf, sl, si, lt), hO, fun m Q hI k => c_raised hO.1 hI k, fun m Q hI k => ?_⟩
  have hI : IR m tx u lw ow sf sl si lt := hI
  unfold raiA at k
  refine bk_X10_raised_0 (bk_X10_isGood_0 (r_reads hI (fun m1 f1 f2 f3 => bk_X10_isGood_4 (bk_X10_raised_5 ?_))))
  rw [f3.1]
  refine ⟨fun h1 => ?_, fun h1 => ⟨fun g2 => ?_, fun h2 => ?_⟩⟩
  · have h1 := zb0 h1
    rw [if_neg (fun q => h1 q.1)] at k; exact k m1 f1 f2
  · have g1 := zb1 h1
    rw [if_pos ⟨g1, g2⟩] at k
    obtain ⟨g, hg, rfl⟩ := rngP (by omega) g1
    rw [nI_clamp (by omega)] at k
    exact r_raisedOf hO.1 f2.2.1 f3 hg (bk_X10_raised_26 (k m1 f1 f2))
  · rw [if_neg (fun q => h2 q.2)] at k; exact k m1 f1 f2
end PRF
