/-! read, write -/
theorem nI_min {a b : Nat} (ha : a < 2 ^ 31) (hb : b < 2 ^ 31) : (if nI a < nI b then nI a else nI b : Int32) = nI (if a < b then a else b) := by
  by_cases h : a < b
  · rw [if_pos h, if_pos ((nI_ltI ha hb).mpr h)]
  · rw [if_neg h, if_neg (fun z => h ((nI_ltI ha hb).mp z))]
/-- PARTNERS by items, c of them at most, from i on: how many there are then, and whose GOODS are -/
def rdo (it : Nat → Int32) : Nat → Nat → (Nat → Nat) → Nat × (Nat → Nat)
  | 0, i, ow => (i, ow)
  | c + 1, i, ow => if 0 ≤ it i ∧ it i ≤ 3 then rdo it c (i + 1) (updN ow i (it i).toNatClampNeg) else (i, ow)
theorem rdo_ok (it : Nat → Int32) : ∀ (c i : Nat) (ow : Nat → Nat), OKO ow → OKO (rdo it c i ow).2 := by
  intro c
  induction c with
  | zero => intro i ow h; exact h
  | succ c ih =>
    intro i ow h
    simp only [rdo]
    split
    · next q =>
      refine ih _ _ (fun j hj => ?_)
      obtain ⟨v, hv, e⟩ := rng' (n := 3) (by decide) q
      simp only [updN]
      split
      · rw [e, nI_clamp (by omega)]; omega
      · exact h j hj
    · exact h
section RDW
variable {ro : pm_RO} {tx : Nat → Nat} {u : Nat} {lw ow : Nat → Nat} {sf : Nat → Int32} {sl : Nat → Nat} {si : Nat → Nat → Int32} {lt : Int32}
theorem IC.own {mem mem' : pm_M} {ow' : Nat → Nat} (hI : IC mem tx u lw ow sf sl si lt) (hF : Fr [12] mem mem') (hO : OC mem' ow') : IC mem' tx u lw ow' sf sl si lt := by
  obtain ⟨h1, h2, h3, h4, h5, h6, h7, h8⟩ := hI
  exact ⟨h1.fr (congrFun (hF 3 (by decide)) 2) (hF 4 (by decide)), h2.fr (hF 3 (by decide)) (hF 5 (by decide)), h3.fr (hF 2 (by decide)), hO, h5.fr (fun t t1 t2 => hF t (by simp only [List.mem_cons, List.not_mem_nil, or_false]; omega)), by rw [hF 0 (by decide)]; exact h6, h7.fr (hF 6 (by decide)) (hF 7 (by decide)) (hF 8 (by decide)), h8.fr (hF 15 (by decide)) (hF 16 (by decide))⟩
theorem IR.own {mem mem' : pm_M} {ow' : Nat → Nat} (hI : IR mem tx u lw ow sf sl si lt) (hF : Fr [40] mem mem') (hO : OR mem' ow') : IR mem' tx u lw ow' sf sl si lt := by
  obtain ⟨h1, h2, h3, h4, h5⟩ := hI
  exact ⟨h1.fr (congrFun (hF 33 (by decide)) 6) (hF 38 (by decide)), h2.fr (hF 41 (by decide)), hO, h4.fr (hF 34 (by decide)) (hF 35 (by decide)) (hF 36 (by decide)), by rw [hF 33 (by decide)]; exact h5⟩
theorem c_read_43 {Q : Option Value → pm_M → Prop} {s n : Nat} (hs : s < 4) (hn : n ≤ 8) {a : Int32} {m0 : pm_M} (hit : ∀ j, j < n → m0 (24 + 2 * s + 1) j = si s j) : ∀ (c i : Nat) (ow : Nat → Nat) (mem : pm_M), i + c = n → Fr [12] m0 mem → OC mem ow → (∀ mem' : pm_M, Fr [12] m0 mem' → OC mem' (rdo (si s) c i ow).2 → Q (some (.int (nI (rdo (si s) c i ow).1))) mem') → pm_Ex ro m_X9_read 43 [.ref 0, .int a, .ref (24 + 2 * s), .int (nI n), .int (nI i)] [] mem Q := by
  intro c
  induction c with
  | zero =>
    intro i ow mem hi hF hO k
    have : i = n := by omega
    subst this
    exact bk_X9_read_43 (shN hs) ⟨fun _ => k mem hF hO, fun q => absurd (nI_le (Nat.le_refl _) (by omega)) q⟩
  | succ c ih =>
    intro i ow mem hi hF hO k
    refine bk_X9_read_43 (shN hs) ⟨fun q => ?_, fun _ => ⟨nI_inb (by omega) (by decide), ?_⟩⟩
    · rw [nI_leI (by omega) (by omega)] at q; omega
    have e : mem (24 + 2 * s + 1) (nI i).toNatClampNeg = si s i := by
      rw [nI_clamp (by omega), hF (24 + 2 * s + 1) (by simp only [List.mem_cons, List.not_mem_nil, or_false]; omega)]
      exact hit i (by omega)
    rw [e, nI_clamp (by omega), nI_1]
    simp only [rdo] at k
    refine ⟨fun q => ⟨nI_inb (by omega) (by decide), nI_inb (by omega) (by decide), ?_⟩, fun q => ?_⟩
    · have q := rng_iff.mp q
      rw [if_pos q] at k
      obtain ⟨v, hv, ev⟩ := rng' (n := 3) (by decide) q
      refine ih (i + 1) _ _ (by omega) (hF.up (by decide) _ _) (fun j hj => ?_) k
      rw [up_t]
      simp only [upd, updN]
      split
      · rw [ev, nI_clamp (by omega)]
      · exact hO j hj
    · rw [if_neg (fun z => q (rng_iff.mpr z))] at k
      exact k mem hF hO
theorem r_read_27 {Q : Option Value → pm_M → Prop} {s n : Nat} (hs : s < 4) (hn : n ≤ 60) {m0 : pm_M} (hit : ∀ j, j < n → m0 36 (60 * s + j) = si s j) (hsz : m0 35 s = nI n) : ∀ (c i : Nat) (ow : Nat → Nat) (mem : pm_M), i + c = (if 8 < n then 8 else n) → Fr [40] m0 mem → OR mem ow → (∀ mem' : pm_M, Fr [40] m0 mem' → OR mem' (rdo (si s) c i ow).2 → Q (some (.int (nI (rdo (si s) c i ow).1))) mem') → OKO ow → pm_Ex ro m_X10_read 27 [.ref 33, .int (nI s), .int (nI i)] [] mem Q := by
  intro c
  induction c with
  | zero =>
    intro i ow mem hi hF hO k _
    refine bk_X10_read_27 ⟨nI_inb (by omega) (by decide), ?_⟩
    rw [nI_clamp (by omega), hF 35 (by decide), hsz]
    refine ⟨fun _ => k mem hF hO, fun q => ?_⟩
    have hi8 : i = if 8 < n then 8 else n := by omega
    rw [nI_leI (by omega) (by split at hi8 <;> omega)] at q
    have h8 : i = 8 ∧ 8 < n := by split at hi8 <;> omega
    rw [show (60 : Int32) = nI 60 from rfl, pk_mul, nI_add, nI_clamp (by omega)]
    refine ⟨nI_inb (by omega) (by decide), bk_X10_partner_0 ⟨fun z => ?_, fun _ => ?_⟩⟩
    · obtain ⟨v, hv, ev⟩ := rng' (n := 7) (by decide) z
      rw [nI_eq (by omega) (by omega)] at ev
      omega
    · exact bk_X10_read_53 ⟨fun _ => k mem hF hO, fun z => absurd (by decide) z⟩
  | succ c ih =>
    intro i ow mem hi hF hO k hok
    have hib : i < 8 ∧ i < n := by split at hi <;> omega
    refine bk_X10_read_27 ⟨nI_inb (by omega) (by decide), ?_⟩
    rw [nI_clamp (by omega), hF 35 (by decide), hsz]
    refine ⟨fun q => ?_, fun _ => ?_⟩
    · rw [nI_leI (by omega) (by omega)] at q; omega
    rw [show (60 : Int32) = nI 60 from rfl, pk_mul, nI_add, nI_clamp (by omega), hF 36 (by decide), hit i hib.2]
    refine ⟨nI_inb (by omega) (by decide), ?_⟩
    simp only [rdo] at k
    refine bk_X10_partner_0 ⟨fun _ => ⟨fun g => ⟨nI_inb (by omega) (by decide), nI_inb (by omega) (by decide), ?_⟩, fun g => ?_⟩, fun z => absurd (nI_rng (by decide) (show i ≤ 7 by omega)) z⟩
    · rw [if_pos g] at k
      rw [nI_clamp (by omega), hO i (by omega)]
      have h4 := hok i (by omega)
      obtain ⟨v, hv, ev⟩ := rng' (n := 3) (by decide) g
      refine bk_X10_read_53 ⟨fun z => absurd z (nI_pos (by omega)), fun _ => ?_⟩
      rw [nI_1]
      refine ih (i + 1) _ _ (by omega) (hF.up (by decide) _ _) (fun j hj => ?_) k (fun j hj => ?_)
      · rw [up_t]
        simp only [upd, updN]
        split
        · rw [ev, nI_clamp (by omega)]
        · exact hO j hj
      · simp only [updN]
        split
        · rw [ev, nI_clamp (by omega)]; omega
        · exact hok j hj
    · rw [if_neg g] at k
      exact bk_X10_read_53 ⟨fun _ => k mem hF hO, fun z => absurd (by decide) z⟩
theorem ag_read (hO : OK lw ow sf sl) (a : Int32) : AGi ro m_X9_read [.ref 0, .int a, .null, .null, .null] m_X10_read [.ref 33, .int a, .null] (tx, u, lw, ow, sf, sl, si, lt) := by
  by_cases h : 0 ≤ a ∧ a ≤ 3
  · obtain ⟨s, hs, rfl⟩ := rng' (n := 3) (by decide) h
    have hin : pm_inb (nI s) 4 = true := nI_inb (by omega) (by decide)
    have hcl : (nI s).toNatClampNeg = s := nI_clamp (by omega)
    have h60 := (hO.2.2 s (by omega)).2.1
    by_cases hl : sf s = -1
    · refine ⟨-11, (tx, u, lw, ow, sf, sl, si, 1), hO, fun m _ hI k => bk_X9_read_0 ⟨fun _ => ⟨hin, fun _ => ?_, fun q => ?_⟩, fun q => absurd (rng_iff.mpr h) q⟩, fun m _ hI k => bk_X10_read_0 ⟨fun _ => ⟨hin, fun q => ?_, fun _ => ?_⟩, fun q => absurd h q⟩⟩
      · exact k _ ((Fr.up1 _ _ _).CT (by decide)) (IC.found hI 1)
      · rw [hcl, (hI.2.2.2.2.1 s (by omega)).1] at q
        exact absurd (not_not_intro hl) q
      · rw [hcl, (hI.2.2.2.1 s (by omega)).1, sf_ge hO.2.2 (by omega)] at q
        exact absurd hl q
      · exact k _ ((Fr.up1 _ _ _).RT (by decide)) (IR.found hI 1)
    · refine ⟨nI (rdo (si s) (if 8 < sl s then 8 else sl s) 0 ow).1, (tx, u, lw, (rdo (si s) (if 8 < sl s then 8 else sl s) 0 ow).2, sf, sl, si, lt), ⟨hO.1, rdo_ok _ _ _ _ hO.2.1, hO.2.2⟩, fun m Q hI k => bk_X9_read_0 ⟨fun _ => ⟨hin, fun q => ?_, fun _ => ?_⟩, fun q => absurd (rng_iff.mpr h) q⟩, fun m Q hI k => bk_X10_read_0 ⟨fun _ => ⟨hin, fun _ => ?_, fun q => ?_⟩, fun q => absurd h q⟩⟩
      · rw [hcl, (hI.2.2.2.2.1 s (by omega)).1] at q
        exact absurd hl q
      · have hI : IC m tx u lw ow sf sl si lt := hI
        rw [hcl, (hI.2.2.2.2.1 s (by omega)).2.1]
        have e : (if (8 : Int32) < nI (sl s) then 8 else nI (sl s) : Int32) = nI (if 8 < sl s then 8 else sl s) := by
          rw [show (8 : Int32) = nI 8 from rfl, nI_min (by decide) (by omega)]
        rw [e]
        refine c_read_43 (si := si) (n := if 8 < sl s then 8 else sl s) (by omega) (by split <;> omega) (m0 := m) (fun j hj => (hI.2.2.2.2.1 s (by omega)).2.2 j (by split at hj <;> omega)) (if 8 < sl s then 8 else sl s) 0 ow m (Nat.zero_add _) (Fr.rf _ _) hI.2.2.2.1 (fun mem' f1 f2 => ?_)
        exact k mem' (f1.CT (by decide)) (IC.own hI f1 f2)
      · have hI : IR m tx u lw ow sf sl si lt := hI
        refine r_read_27 (si := si) (n := sl s) (by omega) h60 (m0 := m) (fun j hj => (hI.2.2.2.1 s (by omega)).2.2 j hj) ((hI.2.2.2.1 s (by omega)).2.1 hl) (if 8 < sl s then 8 else sl s) 0 ow m (Nat.zero_add _) (Fr.rf _ _) hI.2.2.1 (fun mem' f1 f2 => ?_) hO.2.1
        exact k mem' (f1.RT (by decide)) (IR.own hI f1 f2)
      · rw [hcl, (hI.2.2.2.1 s (by omega)).1, sf_ge hO.2.2 (by omega)] at q
        exact absurd hl q
  · exact ⟨-2, (tx, u, lw, ow, sf, sl, si, lt), hO, fun m _ hI k => bk_X9_read_0 ⟨fun q => absurd (rng_iff.mp q) h, fun _ => k m (Fr.rf _ _) hI⟩, fun m _ hI k => bk_X10_read_0 ⟨fun q => absurd q h, fun _ => k m (Fr.rf _ _) hI⟩⟩
end RDW
/-! figures of a number -/
def ln (b n : Nat) : Nat := if h : 2 ≤ b ∧ 0 < n then ln b (n / b) + 1 else 0
termination_by n
decreasing_by exact Nat.div_lt_self h.2 h.1
def dgt (b n k : Nat) : Nat := n / b ^ k % b
theorem ln_0 (b : Nat) : ln b 0 = 0 := by rw [ln]; simp
theorem ln_s {b n : Nat} (hb : 2 ≤ b) (hn : 0 < n) : ln b n = ln b (n / b) + 1 := by rw [ln, dif_pos ⟨hb, hn⟩]
theorem dgt_lt {b : Nat} (hb : 2 ≤ b) (n k : Nat) : dgt b n k < b := Nat.mod_lt _ (by omega)
theorem ln_le {b : Nat} (hb : 2 ≤ b) : ∀ (d n : Nat), n < 2 ^ d → ln b n ≤ d := by
  intro d
  induction d with
  | zero => intro n h; have : n = 0 := by simpa using h
            subst this; rw [ln_0]; exact Nat.le_refl _
  | succ d ih =>
    intro n h
    rcases Nat.eq_zero_or_pos n with z | z
    · subst z; rw [ln_0]; exact Nat.zero_le _
    · rw [ln_s hb z]
      have e4 : n / b ≤ n / 2 := Nat.div_le_div_left hb (by decide)
      have := ih (n / b) (by rw [Nat.pow_succ] at h; omega)
      omega
section SPL
variable {ro : pm_RO} {Q : Option Value → pm_M → Prop} {lw : Nat → Nat}
theorem c_split_13 (hO : OKL lw) {n : Nat} (hn : n < 2 ^ 31) {a : Int32} {m0 : pm_M} (k : ∀ mem' : pm_M, Fr [32] m0 mem' → (∀ j, j < ln (lw 0) n → mem' 32 j = nI (dgt (lw 0) n j)) → Q (some (.int (nI (ln (lw 0) n)))) mem') : ∀ (r i : Nat) (mem : pm_M), r = n / lw 0 ^ i → i + ln (lw 0) r = ln (lw 0) n → Fr [32] m0 mem → (∀ j, j < i → mem 32 j = nI (dgt (lw 0) n j)) → pm_Ex ro m_X2_splitUp 13 [.ref 1, .int a, .ref 32, .int (nI (lw 0)), .int (nI i), .int (nI r)] [] mem Q := by
  intro r
  have hln := ln_le hO.1 31 n hn
  induction r using Nat.strongRecOn with
  | ind r ih =>
    intro i mem hr hi hF hd
    have hrn : r ≤ n := by rw [hr]; exact Nat.div_le_self _ _
    have hb := hO.2.1
    have hb2 := hO.1
    have done : r = 0 → Q (some (.int (nI i))) mem := by
      intro z
      rw [z, ln_0, Nat.add_zero] at hi
      rw [hi]
      rw [hi] at hd
      exact k mem hF hd
    refine bk_X2_splitUp_13 ⟨fun q => ?_, fun q => ⟨fun q2 => ?_, fun q2 => ⟨fun q3 => ?_, fun q3 => ?_⟩⟩⟩
    · have q : nI 31 ≤ nI i := q
      rw [nI_leI (by decide) (by omega)] at q
      refine done ?_
      rcases Nat.eq_zero_or_pos r with z | z
      · exact z
      · have := ln_s hb2 z; omega
    · exact done ((nI_le0 (by omega)).mp q2)
    · rw [show (1 : Int32) = nI 1 from rfl, nI_leI (by omega) (by decide)] at q3
      omega
    · have q : ¬ nI 31 ≤ nI i := q
      rw [nI_leI (by decide) (by omega)] at q
      rw [nI_le0 (by omega)] at q2
      rw [pk_rem (d := lw 0) (by omega) (by omega) (by omega), pk_div (d := lw 0) (by omega) (by omega) (by omega), nI_clamp (by omega), nI_1]
      refine ⟨nI_ne0 (by omega) (by omega), nI_inb (by omega) (by decide), nI_ne0 (by omega) (by omega), ih (r / lw 0) (Nat.div_lt_self (by omega) hb2) (i + 1) _ ?_ ?_ (hF.up (by decide) _ _) (fun j hj => ?_)⟩
      · rw [hr, Nat.div_div_eq_div_mul, Nat.pow_succ]
      · have := ln_s hb2 (show 0 < r by omega); omega
      · rw [up_t]
        simp only [upd]
        split
        · next e => rw [e, hr]; rfl
        · exact hd j (by omega)
theorem c_split (hO : OKL lw) {mem : pm_M} (hL : LC mem lw) {n : Nat} (hn : n < 2 ^ 31) (k : ∀ mem' : pm_M, Fr [32] mem mem' → (∀ j, j < ln (lw 0) n → mem' 32 j = nI (dgt (lw 0) n j)) → Q (some (.int (nI (ln (lw 0) n)))) mem') : pm_Ex ro m_X2_splitUp 0 [.ref 1, .int (nI n), .ref 32, .null, .null, .null] [] mem Q := by
  refine bk_X2_splitUp_0 ?_
  rw [hL 0 (by decide)]
  exact c_split_13 hO hn k n 0 mem (by simp) (by simp) (Fr.rf _ _) (fun j hj => by omega)
end SPL
