/-! smudged -/
/-- v's figures fit the n items -/
def FT (b : Nat) (it : Nat → Int32) (n v : Nat) : Prop := ln b v = n ∧ ∀ i, i < n → it i = -1 ∨ it i = nI (dgt b v (n - 1 - i))
theorem ln_div {b : Nat} (hb : 2 ≤ b) : ∀ n v, v / b ^ n = 0 ↔ ln b v ≤ n := by
  intro n
  induction n with
  | zero =>
    intro v
    rw [Nat.pow_zero, Nat.div_one]
    rcases Nat.eq_zero_or_pos v with z | z
    · subst z; rw [ln_0]; simp
    · rw [ln_s hb z]; omega
  | succ n ih =>
    intro v
    rcases Nat.eq_zero_or_pos v with z | z
    · subst z; rw [ln_0]; simp
    · rw [ln_s hb z, Nat.pow_succ, Nat.mul_comm, ← Nat.div_div_eq_div_mul, ih]; omega
def smN (p : Nat → Bool) : Nat → Nat
  | 0 => 0
  | n + 1 => smN p n + (if p (n + 1) then 1 else 0)
def smM (p : Nat → Bool) : Nat → Int32
  | 0 => -1
  | n + 1 => if p (n + 1) ∧ smM p n = -1 then nI (n + 1) else smM p n
theorem smN_le (p : Nat → Bool) : ∀ n, smN p n ≤ n := by
  intro n
  induction n with
  | zero => exact Nat.le_refl _
  | succ n ih => simp only [smN]; split <;> omega
section SMU
variable {ro : pm_RO} {Q : Option Value → pm_M → Prop} {tx : Nat → Nat} {u : Nat} {lw ow : Nat → Nat} {sf : Nat → Int32} {sl : Nat → Nat} {si : Nat → Nat → Int32} {lt : Int32}
theorem c_fits {mem : pm_M} {s b v : Nat} {it : Nat → Int32} {n : Nat} (hs : s < 4) (hn : n ≤ 60) (hv : ln b v ≤ 31) (h2 : mem (24 + 2 * s) 2 = nI n) (hit : ∀ i, i < n → mem (24 + 2 * s + 1) i = it i) (h32 : ∀ j, j < ln b v → mem 32 j = nI (dgt b v j)) (k1 : FT b it n v → Q (some (.int 1)) mem) (k0 : ¬ FT b it n v → Q (some (.int 0)) mem) : pm_Ex ro m_X6_fits 0 [.ref (24 + 2 * s), .ref 32, .int (nI (ln b v)), .null] [] mem Q := by
  refine bk_X6_fits_0 (shN hs) ?_
  rw [h2, nI_eq (by omega) (by omega)]
  refine ⟨fun q => ?_, fun q => k0 (fun z => q z.1)⟩
  have key : ∀ (c i : Nat), i + c = n → (∀ j, j < i → it j = -1 ∨ it j = nI (dgt b v (n - 1 - j))) → pm_Ex ro m_X6_fits 12 [.ref (24 + 2 * s), .ref 32, .int (nI (ln b v)), .int (nI i)] [] mem Q := by
    intro c
    induction c with
    | zero =>
      intro i hi hj
      have : i = n := by omega
      subst this
      exact bk_X6_fits_12 (shN hs) ⟨fun _ => k1 ⟨q, hj⟩, fun z => absurd (nI_le (by omega) (by omega)) z⟩
    | succ c ih =>
      intro i hi hj
      refine bk_X6_fits_12 (shN hs) ⟨fun z => ?_, fun _ => ⟨nI_inb (by omega) (by decide), ?_⟩⟩
      · rw [nI_leI (by omega) (by omega)] at z; omega
      rw [nI_clamp (by omega), hit i (by omega), nI_1]
      refine ⟨fun z => ih (i + 1) (by omega) (fun j h => ?_), fun z => ?_⟩
      · rcases Nat.lt_or_ge j i with y | y
        · exact hj j y
        · have : j = i := by omega
          rw [this]; exact Or.inl z
      have e : (nI (ln b v) - 1) - nI i = nI (n - 1 - i) := by
        rw [show (1 : Int32) = nI 1 from rfl, pk_sub (by omega), pk_sub (by omega), q]
      rw [e, nI_clamp (by omega), h32 (n - 1 - i) (by omega)]
      refine ⟨nI_inb (by omega) (by decide), nI_inb (by omega) (by decide), fun y => ih (i + 1) (by omega) (fun j h => ?_), fun y => k0 (fun w => ?_)⟩
      · rcases Nat.lt_or_ge j i with y2 | y2
        · exact hj j y2
        · have : j = i := by omega
          rw [this]; exact Or.inr y
      · rcases w.2 i (by omega) with y2 | y2
        · exact z y2
        · exact y y2
  exact key n 0 (Nat.zero_add _) (fun j h => by omega)
theorem r_fits (hO : OKL lw) {mem : pm_M} (hL : LR mem lw) {s v : Nat} {it : Nat → Int32} {n : Nat} (hs : s < 4) (hn : n ≤ 60) (hv : v < 2 ^ 31) (h2 : mem 35 s = nI n) (hit : ∀ i, i < n → mem 36 (60 * s + i) = it i) (k1 : FT (lw 0) it n v → Q (some (.int 1)) mem) (k0 : ¬ FT (lw 0) it n v → Q (some (.int 0)) mem) : pm_Ex ro m_X10_fits 0 [.ref 33, .int (nI v), .int (nI s), .null, .null, .null] [] mem Q := by
  have hb2 := hO.1
  have hb := hO.2.1
  refine bk_X10_fits_0 ⟨nI_inb (by omega) (by decide), ?_⟩
  rw [nI_clamp (by omega), h2]
  have key : ∀ (m j : Nat), j + m = n → j ≤ ln (lw 0) v → (∀ i, n - j ≤ i → i < n → it i = -1 ∨ it i = nI (dgt (lw 0) v (n - 1 - i))) → ∀ {d5 : Value}, pm_Ex ro m_X10_fits 12 [.ref 33, .int (nI v), .int (nI s), .int (nI (v / lw 0 ^ j)), .int (nI m + (-1)), d5] [] mem Q := by
    intro m
    induction m with
    | zero =>
      intro j hj hl hi d5
      have : j = n := by omega
      subst this
      have hlt : v / lw 0 ^ j < 2 ^ 31 := Nat.lt_of_le_of_lt (Nat.div_le_self _ _) hv
      refine bk_X10_fits_12 ⟨fun _ => ?_, fun q => absurd (by decide) q⟩
      by_cases h0 : v / lw 0 ^ j = 0
      · have := k1 ⟨by have := (ln_div hb2 j v).mp h0; omega, fun i h => hi i (by omega) h⟩
        rw [zb_pos (by rw [nI_eq0 hlt]; exact not_not_intro h0)]
        exact this
      · have := k0 (fun z => h0 ((ln_div hb2 j v).mpr (by rw [z.1]; exact Nat.le_refl _)))
        rw [zb_neg (by rw [nI_eq0 hlt]; exact fun z => z h0)]
        exact this
    | succ m ih =>
      intro j hj hl hi d5
      have hlt : v / lw 0 ^ j < 2 ^ 31 := Nat.lt_of_le_of_lt (Nat.div_le_self _ _) hv
      rw [pk_m1]
      refine bk_X10_fits_12 ⟨fun q => absurd q (nI_pos (by omega)), fun _ => ?_⟩
      rw [show (60 : Int32) = nI 60 from rfl, pk_mul, nI_add, nI_clamp (by omega), hit m (by omega), hL 0 (by decide)]
      rw [pk_rem (d := lw 0) hlt (by omega) (by omega), pk_div (d := lw 0) hlt (by omega) (by omega), Nat.div_div_eq_div_mul, ← Nat.pow_succ]
      have hb0 : ¬ nI (lw 0) = 0 := nI_ne0 (by omega) (by omega)
      refine ⟨nI_inb (by omega) (by decide), fun q => k0 (fun z => ?_), fun q => ⟨fun y => ⟨hb0, ?_⟩, fun y => ⟨hb0, fun w => ⟨hb0, ?_⟩, fun w => k0 (fun z => ?_)⟩⟩⟩
      · rw [nI_eq0 hlt, ln_div hb2] at q
        have := z.1; omega
      · rw [nI_eq0 hlt, ln_div hb2] at q
        refine ih (j + 1) (by omega) (by omega) (fun i h1 h2 => ?_)
        by_cases e : i = m
        · rw [e]; exact Or.inl y
        · exact hi i (by omega) h2
      · rw [nI_eq0 hlt, ln_div hb2] at q
        refine ih (j + 1) (by omega) (by omega) (fun i h1 h2 => ?_)
        by_cases e : i = m
        · rw [e]
          refine Or.inr ?_
          rw [show n - 1 - m = j by omega]
          exact w
        · exact hi i (by omega) h2
      · rcases z.2 m (by omega) with z | z
        · exact y z
        · rw [show n - 1 - m = j by omega] at z
          exact w z
  have := key n 0 (Nat.zero_add _) (Nat.zero_le _) (fun i h1 h2 => by omega) (d5 := .null)
  rw [Nat.pow_zero, Nat.div_one] at this
  rw [show nI n - 1 = nI n + (-1) from Int32.sub_eq_add_neg _ _]
  exact this
noncomputable def smP (tx : Nat → Nat) (u : Nat) (lw : Nat → Nat) (it : Nat → Int32) (n : Nat) : Nat → Bool := fun s => @decide (FT (lw 0) it n (PD lw (SMt tx u s))) (Classical.propDecidable _)
noncomputable def smuS (tx : Nat → Nat) (u : Nat) (lw : Nat → Nat) (it : Nat → Int32) (n what : Nat) : Int32 := if what = 0 then nI (smN (smP tx u lw it n) (2 ^ pzG tx u - 1)) else smM (smP tx u lw it n) (2 ^ pzG tx u - 1)
theorem smP_t {it : Nat → Int32} {n s : Nat} (h : FT (lw 0) it n (PD lw (SMt tx u s))) : smP tx u lw it n s = true := by
  unfold smP; exact @decide_eq_true _ (Classical.propDecidable _) h
theorem smP_f {it : Nat → Int32} {n s : Nat} (h : ¬ FT (lw 0) it n (PD lw (SMt tx u s))) : smP tx u lw it n s = false := by
  unfold smP; exact @decide_eq_false _ (Classical.propDecidable _) h
theorem c_smu (hO : OK lw ow sf sl) {m0 : pm_M} (hI : IC m0 tx u lw ow sf sl si lt) {s w : Nat} (hs : s < 4) (hw : w ≤ 1) (k : ∀ mem' : pm_M, Fr [6, 7, 8, 32] m0 mem' → IC mem' tx u lw ow sf sl si lt → Q (some (.int (smuS tx u lw (si s) (sl s) w))) mem') : pm_Ex ro m_X9_smudged 51 [.ref 0, .int (nI s), .int (nI w), .int 0, .int (-1), .int (nI (2 ^ pzG tx u - 1)), .null] [] m0 Q := by
  have hG := pzG_le tx u
  have hG2 := p2_le hG
  have hG1 := p2_pos (pzG tx u)
  have h60 := (hO.2.2 s hs).2.1
  unfold smuS at k
  generalize hp : smP tx u lw (si s) (sl s) = p at k
  have key : ∀ (n c : Nat) (x4 : Int32) (m : pm_M), n ≤ 2 ^ pzG tx u - 1 → c + smN p n = smN p (2 ^ pzG tx u - 1) → smM p (2 ^ pzG tx u - 1) = (if smM p n = -1 then x4 else smM p n) → Fr [6, 7, 8, 32] m0 m → IC m tx u lw ow sf sl si lt → ∀ {d6 : Value}, pm_Ex ro m_X9_smudged 51 [.ref 0, .int (nI s), .int (nI w), .int (nI c), .int x4, .int (nI n), d6] [] m Q := by
    intro n
    induction n with
    | zero =>
      intro c x4 m hn hc hx hF hI d6
      refine bk_X9_smudged_51 ⟨fun _ => ?_, fun q => absurd (by decide) q⟩
      have kk := k m hF hI
      rw [hx, ← hc] at kk
      simp only [smN, smM, Nat.add_zero, if_true] at kk
      by_cases h0 : w = 0
      · subst h0
        rw [if_neg (by decide)]
        exact kk
      · rw [if_neg h0] at kk
        rw [if_pos (by rw [nI_eq0 (by omega)]; exact h0)]
        exact kk
    | succ n ih =>
      intro c x4 m hn hc hx hF hI d6
      have hle := SMt_le tx u (n + 1)
      have hPD := PD_lt hO.1 (n := SMt tx u (n + 1)) (by omega)
      refine bk_X9_smudged_51 ⟨fun q => absurd q (nI_nle (by omega) (by omega)), fun _ => ?_⟩
      refine c_paidOf hO.1 hI (by omega) (by omega) (fun m1 f1 f2 f3 f4 => bk_X9_smudged_69 ?_)
      refine c_split hO.1 f2.2.2.1 hPD (fun m2 g1 g2 => bk_X9_smudged_76 ?_)
      have hF2 : Fr [6, 7, 8, 32] m0 m2 := (hF.tr (f1.sub (by decide))).tr (g1.sub (by decide))
      have hI2 : IC m2 tx u lw ow sf sl si lt := f2.scr g1 (by decide)
      rw [nI_clamp (by omega)]
      refine ⟨nI_inb (by omega) (by decide), ?_⟩
      refine c_fits (it := si s) (n := sl s) hs h60 (ln_le hO.1.1 31 _ hPD) (hI2.2.2.2.2.1 s hs).2.1 (hI2.2.2.2.2.1 s hs).2.2 g2 (fun z => bk_X9_smudged_93 ?_) (fun z => bk_X9_smudged_93 ?_)
      · have hp1 : p (n + 1) = true := by rw [← hp]; exact smP_t z
        rw [if_neg (by decide), if_neg (by decide), pk_m1, nI_1]
        simp only [smN, hp1, if_true] at hc
        refine ih (c + 1) _ m2 (by omega) (by omega) ?_ hF2 hI2
        rw [hx]
        simp only [smM, hp1, true_and]
        by_cases h0 : smM p n = -1
        · rw [if_pos h0, if_neg (fI_ne (by omega))]
        · rw [if_neg h0, if_neg h0]
      · have hp1 : p (n + 1) = false := by rw [← hp]; exact smP_f z
        rw [if_pos rfl, if_pos rfl, pk_m1]
        simp only [smN, hp1, Bool.false_eq_true, if_false, Nat.add_zero] at hc
        refine ih c _ m2 (by omega) hc ?_ hF2 hI2
        rw [hx]
        simp only [smM, hp1, Bool.false_eq_true, false_and, if_false]
  refine key (2 ^ pzG tx u - 1) 0 (-1) m0 (Nat.le_refl _) (Nat.zero_add _) ?_ (Fr.rf _ _) hI
  split
  · assumption
  · rfl
theorem r_smu (hO : OK lw ow sf sl) {mem : pm_M} (hI : IR mem tx u lw ow sf sl si lt) (hR : GR mem tx u) {s w : Nat} (hs : s < 4) (hw : w ≤ 1) (hf : ¬ sf s = -1) (k : Q (some (.int (smuS tx u lw (si s) (sl s) w))) mem) : pm_Ex ro m_X10_smudged 45 [.ref 33, .int (nI s), .int (nI w), .int 0, .int (-1), .int 1, .null] [] mem Q := by
  have hG := pzG_le tx u
  have hG2 := p2_le hG
  have hG1 := p2_pos (pzG tx u)
  have h60 := (hO.2.2 s hs).2.1
  unfold smuS at k
  generalize hp : smP tx u lw (si s) (sl s) = p at k
  have key : ∀ (e n : Nat), n + 1 + e = 2 ^ pzG tx u → ∀ {d6 : Value}, pm_Ex ro m_X10_smudged 45 [.ref 33, .int (nI s), .int (nI w), .int (nI (smN p n)), .int (smM p n), .int (nI (n + 1)), d6] [] mem Q := by
    intro e
    induction e with
    | zero =>
      intro n hn d6
      refine bk_X10_smudged_45 ?_
      rw [hR.1, whl hG]
      refine ⟨fun _ => ?_, fun q => absurd (nI_lt (by omega) (by omega)) q⟩
      rw [show 2 ^ pzG tx u - 1 = n by omega] at k
      by_cases h0 : w = 0
      · subst h0
        rw [if_neg (by decide)]
        exact k
      · rw [if_neg h0] at k
        rw [if_pos (by rw [nI_eq0 (by omega)]; exact h0)]
        exact k
    | succ e ih =>
      intro n hn d6
      have ih' := fun d6 => ih (n + 1) (by omega) (d6 := d6)
      simp only [smN, smM] at ih'
      have hle := SMt_le tx u (n + 1)
      have hPD := PD_lt hO.1 (n := SMt tx u (n + 1)) (by omega)
      refine bk_X10_smudged_45 ?_
      rw [hR.1, whl hG]
      refine ⟨fun q => ?_, fun _ => ?_⟩
      · rw [nI_ltI (by omega) (by omega)] at q; omega
      refine r_sumOf hR (by omega) (bk_X10_smudged_62 (pdR hO.1 hI.2.1 (by omega) (bk_X10_smudged_65 ?_)))
      refine r_fits hO.1 hI.2.1 (it := si s) (n := sl s) hs h60 hPD ((hI.2.2.2.1 s hs).2.1 hf) (hI.2.2.2.1 s hs).2.2 (fun z => bk_X10_smudged_69 ?_) (fun z => bk_X10_smudged_69 ?_)
      · have hp1 : p (n + 1) = true := by rw [← hp]; exact smP_t z
        rw [hp1] at ih'
        simp only [if_true, true_and] at ih'
        rw [zb_pos (by decide), if_neg (by decide), nI_1, nI_1]
        by_cases h0 : smM p n = -1
        · rw [if_pos h0] at ih'
          rw [if_neg (not_not_intro h0)]
          exact ih' _
        · rw [if_neg h0] at ih'
          rw [if_pos h0]
          exact ih' _
      · have hp1 : p (n + 1) = false := by rw [← hp]; exact smP_f z
        rw [hp1] at ih'
        simp only [Bool.false_eq_true, if_false, false_and, Nat.add_zero] at ih'
        rw [zb_neg (by decide), if_pos rfl, nI_1, show (0 : Int32) = nI 0 from rfl, nI_add, Nat.add_zero]
        exact ih' _
  exact key (2 ^ pzG tx u - 1) 0 (by omega)
theorem ag_smudged (hO : OK lw ow sf sl) (a b : Int32) : AGi ro m_X9_smudged [.ref 0, .int a, .int b, .null, .null, .null, .null] m_X10_smudged [.ref 33, .int a, .int b, .null, .null, .null, .null] (tx, u, lw, ow, sf, sl, si, lt) := by
  have hG := pzG_le tx u
  by_cases h1 : 0 ≤ a ∧ a ≤ 3
  · by_cases h2 : 0 ≤ b ∧ b ≤ 1
    · obtain ⟨s, hs, rfl⟩ := rng' (n := 3) (by decide) h1
      obtain ⟨w, hw, rfl⟩ := rng' (n := 1) (by decide) h2
      have hin : pm_inb (nI s) 4 = true := nI_inb (by omega) (by decide)
      have hcl : (nI s).toNatClampNeg = s := nI_clamp (by omega)
      by_cases hf : sf s = -1
      · refine ⟨-11, (tx, u, lw, ow, sf, sl, si, 1), hO, fun m Q hI k => ?_, fun m Q hI k => ?_⟩
        · have hI : IC m tx u lw ow sf sl si lt := hI
          refine bk_X9_smudged_0 ⟨fun _ => ⟨fun _ => ⟨hin, ?_⟩, fun q => absurd (rng_iff.mpr h2) q⟩, fun q => absurd (rng_iff.mpr h1) q⟩
          rw [hcl, (hI.2.2.2.2.1 s (by omega)).1]
          exact ⟨fun _ => k _ ((Fr.up1 _ _ _).CT (by decide)) (hI.found 1), fun q => absurd hf (Decidable.of_not_not q)⟩
        · have hI : IR m tx u lw ow sf sl si lt := hI
          refine bk_X10_smudged_0 ⟨fun _ => ⟨fun _ => ⟨hin, ?_⟩, fun q => absurd h2 q⟩, fun q => absurd h1 q⟩
          rw [hcl, (hI.2.2.2.1 s (by omega)).1, sf_ge hO.2.2 (by omega)]
          exact ⟨fun q => absurd hf q, fun _ => k _ ((Fr.up1 _ _ _).RT (by decide)) (hI.found 1)⟩
      · refine ⟨smuS tx u lw (si s) (sl s) w, (tx, u, lw, ow, sf, sl, si, lt), hO, fun m Q hI k => ?_, fun m Q hI k => ?_⟩
        · have hI : IC m tx u lw ow sf sl si lt := hI
          refine bk_X9_smudged_0 ⟨fun _ => ⟨fun _ => ⟨hin, ?_⟩, fun q => absurd (rng_iff.mpr h2) q⟩, fun q => absurd (rng_iff.mpr h1) q⟩
          rw [hcl, (hI.2.2.2.2.1 s (by omega)).1, hI.2.1.1, whl hG]
          exact ⟨fun q => absurd (Decidable.of_not_not q) hf, fun _ => c_smu hO hI (by omega) hw (fun m' f1 f2 => k m' (f1.CT (by decide)) f2)⟩
        · have hI : IR m tx u lw ow sf sl si lt := hI
          refine bk_X10_smudged_0 ⟨fun _ => ⟨fun _ => ⟨hin, ?_⟩, fun q => absurd h2 q⟩, fun q => absurd h1 q⟩
          rw [hcl, (hI.2.2.2.1 s (by omega)).1, sf_ge hO.2.2 (by omega)]
          exact ⟨fun _ => r_reads hI (fun m1 f1 f2 f3 => bk_X10_smudged_36 (r_smu hO f2 f3 (by omega) hw hf (k m1 f1 f2))), fun q => absurd hf q⟩
    · exact ⟨-2, (tx, u, lw, ow, sf, sl, si, lt), hO, fun m _ hI k => bk_X9_smudged_0 ⟨fun q => ⟨fun q2 => absurd (rng_iff.mp q2) h2, fun _ => k m (Fr.rf _ _) hI⟩, fun _ => k m (Fr.rf _ _) hI⟩, fun m _ hI k => bk_X10_smudged_0 ⟨fun _ => ⟨fun q2 => absurd q2 h2, fun _ => k m (Fr.rf _ _) hI⟩, fun _ => k m (Fr.rf _ _) hI⟩⟩
  · exact ⟨-2, (tx, u, lw, ow, sf, sl, si, lt), hO, fun m _ hI k => bk_X9_smudged_0 ⟨fun q => absurd (rng_iff.mp q) h1, fun _ => k m (Fr.rf _ _) hI⟩, fun m _ hI k => bk_X10_smudged_0 ⟨fun q => absurd q h1, fun _ => k m (Fr.rf _ _) hI⟩⟩
end SMU
