/-! write -/
theorem ln_pow {b : Nat} (hb : 2 ≤ b) : ∀ n : Nat, n < b ^ ln b n := by
  intro n
  induction n using Nat.strongRecOn with
  | ind n ih =>
    rcases Nat.eq_zero_or_pos n with z | z
    · subst z; exact Nat.pow_pos (by omega)
    · rw [ln_s hb z, Nat.pow_succ]
      have h := ih (n / b) (Nat.div_lt_self z hb)
      have h2 : n = b * (n / b) + n % b := (Nat.div_add_mod n b).symm
      have h3 : n % b < b := Nat.mod_lt n (by omega)
      calc n < b * (n / b) + b := by omega
        _ = b * (n / b + 1) := by rw [Nat.mul_add, Nat.mul_one]
        _ ≤ b * b ^ ln b (n / b) := Nat.mul_le_mul_left b h
        _ = b ^ ln b (n / b) * b := Nat.mul_comm _ _
theorem ln_pow_le {b : Nat} (hb : 2 ≤ b) : ∀ n : Nat, 0 < n → b ^ (ln b n - 1) ≤ n := by
  intro n
  induction n using Nat.strongRecOn with
  | ind n ih =>
    intro z
    rw [ln_s hb z, Nat.add_sub_cancel]
    rcases Nat.eq_zero_or_pos (n / b) with y | y
    · rw [y, ln_0, Nat.pow_zero]; exact z
    · have h := ih (n / b) (Nat.div_lt_self z hb) y
      have h1 := ln_s hb y
      have e : ln b (n / b) = (ln b (n / b) - 1) + 1 := by omega
      rw [e, Nat.pow_succ]
      calc b ^ (ln b (n / b) - 1) * b ≤ n / b * b := Nat.mul_le_mul_right b h
        _ ≤ n := Nat.div_mul_le_self n b
theorem cut_small (f : Int32) {d : Nat} (hd : d < 36) : cutI f (nI d) = nI d := by
  have k8 : ∀ d, d < 36 → (nI d).toInt8.toInt32 = nI d := by decide +kernel
  have k16 : ∀ d, d < 36 → (nI d).toInt16.toInt32 = nI d := by decide +kernel
  unfold cutI
  split
  · split
    · rfl
    · exact k16 d hd
  · exact k8 d hd
/-- so many figures of n, the highest first, come ahead of what was there -/
def wrF (b n : Nat) (g : Nat → Int32) (i : Nat) : Nat → Int32 := fun j => if j < i then nI (dgt b n (ln b n - 1 - j)) else g j
theorem wrF_0 (b n : Nat) (g : Nat → Int32) : wrF b n g 0 = g := by funext j; simp [wrF]
theorem wrF_s (b n : Nat) (si : Nat → Nat → Int32) (s i : Nat) : pm_upR (pm_upR si s (wrF b n (si s) i)) s (upd (pm_upR si s (wrF b n (si s) i) s) i (nI (dgt b n (ln b n - 1 - i)))) = pm_upR si s (wrF b n (si s) (i + 1)) := by
  funext q
  by_cases hq : q = s
  · subst hq
    rw [upR_t, upR_t, upR_t]
    funext j
    simp only [upd, wrF]
    by_cases h1 : j = i
    · rw [if_pos h1, if_pos (by omega), h1]
    · rw [if_neg h1]
      by_cases h2 : j < i
      · rw [if_pos h2, if_pos (by omega)]
      · rw [if_neg h2, if_neg (by omega)]
  · rw [upR_n hq, upR_n hq, upR_n hq]
theorem upR_self (si : Nat → Nat → Int32) (s : Nat) : pm_upR si s (si s) = si := by
  funext q
  by_cases hq : q = s
  · subst hq; rw [upR_t]
  · rw [upR_n hq]
section WRT
variable {ro : pm_RO} {Q : Option Value → pm_M → Prop} {tx : Nat → Nat} {u : Nat} {lw ow : Nat → Nat} {sf : Nat → Int32} {sl : Nat → Nat} {si : Nat → Nat → Int32} {lt : Int32}
theorem c_write_65 (hO : OK lw ow sf sl) {n s w : Nat} (hn : n ≤ 9999) (hs : s < 4) (hw : w ≤ 60 ∧ w ≤ ln (lw 0) n) {a1 a2 : Int32} {m0 : pm_M} (k : ∀ mem' : pm_M, Fr CT m0 mem' → IC mem' tx u lw ow sf sl (pm_upR si s (wrF (lw 0) n (si s) w)) lt → Q (some (.int (nI w))) mem') : ∀ (c i : Nat) (mem : pm_M), i + c = w → Fr CT m0 mem → (∀ j, j < ln (lw 0) n → mem 32 j = nI (dgt (lw 0) n j)) → IC mem tx u lw ow sf sl (pm_upR si s (wrF (lw 0) n (si s) i)) lt → pm_Ex ro m_X9_write 65 [.ref 0, .int a1, .int a2, .ref (24 + 2 * s), .int (nI (ln (lw 0) n)), .int (nI w), .int (nI i)] [] mem Q := by
  intro c
  have hln := ln_le hO.1.1 31 n (by omega)
  induction c with
  | zero =>
    intro i mem hi hF h32 hI
    have : i = w := by omega
    subst this
    exact bk_X9_write_65 (shN hs) ⟨fun _ => k mem hF hI, fun q => absurd (nI_le (Nat.le_refl _) (by omega)) q⟩
  | succ c ih =>
    intro i mem hi hF h32 hI
    refine bk_X9_write_65 (shN hs) ⟨fun q => ?_, fun _ => ?_⟩
    · rw [nI_leI (by omega) (by omega)] at q; omega
    have e : (nI (ln (lw 0) n) - 1 - nI i) = nI (ln (lw 0) n - 1 - i) := by
      rw [show (1 : Int32) = nI 1 from rfl, pk_sub (by omega), pk_sub (by omega)]
    rw [e, nI_clamp (by omega), h32 _ (by omega)]
    refine ⟨nI_inb (by omega) (by decide), ?_⟩
    refine c_put hI.2.2.2.2.1 hs (by omega) ?_
    refine bk_X9_write_90 (shN hs) ?_
    have hd := dgt_lt hO.1.1 n (ln (lw 0) n - 1 - i)
    have hb := hO.1.2.1
    rw [cut_small _ (by omega), nI_1]
    have hI2 := hI.put (j := i) hs (nI (dgt (lw 0) n (ln (lw 0) n - 1 - i)))
    rw [wrF_s] at hI2
    refine ih (i + 1) _ (by omega) (hF.up (by simp only [CT, List.mem_cons, List.not_mem_nil, or_false]; omega) _ _) (fun j hj => ?_) hI2
    rw [up_n (by omega)]; exact h32 j hj
theorem r_write_86 (hO : OK lw ow sf sl) {n s : Nat} (hn : n ≤ 9999) (hs : s < 4) (hl : ¬ sf s = -1) {m0 : pm_M} {d6 : Int32} (k : ∀ mem' : pm_M, Fr RT m0 mem' → IR mem' tx u lw ow sf sl (pm_upR si s (wrF (lw 0) n (si s) (if sl s < ln (lw 0) n then sl s else ln (lw 0) n))) lt → Q (some (.int (nI (if sl s < ln (lw 0) n then sl s else ln (lw 0) n)))) mem') : ∀ (c i : Nat) (mem : pm_M) (wt : Nat), i + c = (if sl s < ln (lw 0) n then sl s else ln (lw 0) n) → (i < ln (lw 0) n → wt = lw 0 ^ (ln (lw 0) n - 1 - i)) → wt ≤ 9999 → Fr RT m0 mem → IR mem tx u lw ow sf sl (pm_upR si s (wrF (lw 0) n (si s) i)) lt → pm_Ex ro m_X10_write 86 [.ref 33, .int (nI n), .int (nI s), .int (nI wt), .int (nI (ln (lw 0) n)), .int (nI i), .int (nI (n % lw 0 ^ (ln (lw 0) n - i)))] [] mem Q := by
  intro c
  have hln := ln_le hO.1.1 31 n (by omega)
  have h60 := (hO.2.2 s hs).2.1
  have hb2 := hO.1.1
  have hb := hO.1.2.1
  induction c with
  | zero =>
    intro i mem wt hi hwt hwb hF hI
    have hi : i = if sl s < ln (lw 0) n then sl s else ln (lw 0) n := by omega
    have kk := k mem hF (by rw [← hi]; exact hI)
    rw [← hi] at kk
    refine bk_X10_write_86 ⟨fun _ => kk, fun q => ⟨nI_inb (by omega) (by decide), fun _ => kk, fun q2 => ?_⟩⟩
    rw [nI_leI (by omega) (by split at hi <;> omega)] at q
    rw [nI_clamp (by omega), (hI.2.2.2.1 s hs).2.1 hl, nI_leI (by omega) (by split at hi <;> omega)] at q2
    split at hi <;> omega
  | succ c ih =>
    intro i mem wt hi hwt hwb hF hI
    have hib : i < sl s ∧ i < ln (lw 0) n := by split at hi <;> omega
    have hwt := hwt hib.2
    have hwp : 0 < wt := by rw [hwt]; exact Nat.pow_pos (by omega)
    refine bk_X10_write_86 ⟨fun q => ?_, fun _ => ⟨nI_inb (by omega) (by decide), ?_⟩⟩
    · rw [nI_leI (by omega) (by omega)] at q; omega
    rw [nI_clamp (by omega), (hI.2.2.2.1 s hs).2.1 hl, (hI.2.2.2.1 s hs).1, hI.2.1 0 (by decide)]
    have hmn : n % lw 0 ^ (ln (lw 0) n - i) ≤ n := Nat.mod_le _ _
    refine ⟨fun q => ?_, fun _ => ?_⟩
    · rw [nI_leI (by omega) (by omega)] at q; omega
    rw [show (60 : Int32) = nI 60 from rfl, pk_mul, nI_add, nI_clamp (by omega), nI_1]
    rw [pk_rem (d := wt) (by omega) hwp (by omega), pk_div (d := wt) (by omega) hwp (by omega), pk_div (a := wt) (by omega) (by omega) (by omega)]
    refine ⟨nI_inb (by omega) (by decide), nI_ne0 (by omega) (by omega), nI_inb (by omega) (by decide), nI_ne0 (by omega) (by omega), nI_ne0 (by omega) (by omega), ?_⟩
    have e1 : ln (lw 0) n - i = (ln (lw 0) n - 1 - i) + 1 := by omega
    have e2 : n % lw 0 ^ (ln (lw 0) n - i) / wt = dgt (lw 0) n (ln (lw 0) n - 1 - i) := by
      rw [hwt, e1, Nat.pow_succ, Nat.mod_mul_right_div_self]; rfl
    have e3 : n % lw 0 ^ (ln (lw 0) n - i) % wt = n % lw 0 ^ (ln (lw 0) n - (i + 1)) := by
      rw [hwt, e1, Nat.pow_succ, Nat.mod_mul_right_mod]
      congr 2; omega
    rw [e2, e3]
    have hd := dgt_lt hO.1.1 n (ln (lw 0) n - 1 - i)
    have e4 := cut_small (sf s) (d := dgt (lw 0) n (ln (lw 0) n - 1 - i)) (by omega)
    unfold cutI at e4
    rw [e4]
    have hI2 := hI.put hO.2.2 (j := i) hs (by omega) (nI (dgt (lw 0) n (ln (lw 0) n - 1 - i)))
    rw [wrF_s] at hI2
    refine ih (i + 1) _ (wt / lw 0) (by omega) (fun h2 => ?_) (Nat.le_trans (Nat.div_le_self _ _) hwb) (hF.up (by decide) _ _) hI2
    have e5 : ln (lw 0) n - 1 - i = (ln (lw 0) n - 1 - (i + 1)) + 1 := by omega
    rw [hwt, e5, Nat.pow_succ, Nat.mul_div_cancel _ (by omega)]
theorem r_write_40 (hO : OKL lw) {n s : Nat} (hn : n ≤ 9999) {mem : pm_M} (hL : LR mem lw) (k : pm_Ex ro m_X10_write 86 [.ref 33, .int (nI n), .int (nI s), .int (nI (lw 0 ^ (ln (lw 0) n - 1))), .int (nI (ln (lw 0) n)), .int 0, .int (nI n)] [] mem Q) : ∀ (r i : Nat), r = n / lw 0 ^ i → i + ln (lw 0) r = ln (lw 0) n → pm_Ex ro m_X10_write 40 [.ref 33, .int (nI n), .int (nI s), .int (nI (lw 0 ^ (i - 1))), .int (nI i), .int (nI r), .null] [] mem Q := by
  intro r
  have hln := ln_le hO.1 31 n (by omega)
  have hb2 := hO.1
  have hb := hO.2.1
  induction r using Nat.strongRecOn with
  | ind r ih =>
    intro i hr hi
    have hrn : r ≤ n := by rw [hr]; exact Nat.div_le_self _ _
    refine bk_X10_write_40 ⟨fun q => ?_, fun q => ?_⟩
    · have z := (nI_le0 (by omega)).mp q
      rw [z, ln_0, Nat.add_zero] at hi
      rw [hi]
      exact k
    · rw [nI_le0 (by omega)] at q
      rw [hL 0 (by decide), pk_div (d := lw 0) (by omega) (by omega) (by omega), nI_1]
      refine ⟨nI_ne0 (by omega) (by omega), ?_⟩
      have e : nI (lw 0 ^ (i - 1)) * (if ¬ nI i = 0 then nI (lw 0) else 1 : Int32) = nI (lw 0 ^ (i + 1 - 1)) := by
        rw [Nat.add_sub_cancel]
        by_cases h0 : i = 0
        · rw [if_neg (not_not_intro ((nI_eq0 (by omega)).mpr h0)), h0]; simp
        · rw [if_pos (fun z => h0 ((nI_eq0 (by omega)).mp z)), pk_mul, ← Nat.pow_succ]
          congr 2; omega
      rw [e]
      refine ih (r / lw 0) (Nat.div_lt_self (by omega) hb2) (i + 1) ?_ ?_
      · rw [hr, Nat.div_div_eq_div_mul, Nat.pow_succ]
      · have := ln_s hb2 (show 0 < r by omega); omega
theorem ag_write (hO : OK lw ow sf sl) (a1 a2 : Int32) : AGi ro m_X9_write [.ref 0, .int a1, .int a2, .null, .null, .null, .null] m_X10_write [.ref 33, .int a1, .int a2, .null, .null, .null, .null] (tx, u, lw, ow, sf, sl, si, lt) := by
  by_cases h : 0 ≤ a1 ∧ a1 ≤ 9999
  · by_cases g : 0 ≤ a2 ∧ a2 ≤ 3
    · obtain ⟨n, hn, rfl⟩ := rng' (n := 9999) (by decide) h
      obtain ⟨s, hs, rfl⟩ := rng' (n := 3) (by decide) g
      have hin : pm_inb (nI s) 4 = true := nI_inb (by omega) (by decide)
      have hcl : (nI s).toNatClampNeg = s := nI_clamp (by omega)
      have h60 := (hO.2.2 s (by omega)).2.1
      have hln := ln_le hO.1.1 31 n (by omega)
      by_cases hl : sf s = -1
      · refine ⟨-11, (tx, u, lw, ow, sf, sl, si, 1), hO, fun m _ hI k => bk_X9_write_0 ⟨fun _ => ⟨fun _ => ⟨hin, fun _ => ?_, fun q => ?_⟩, fun q => absurd (rng_iff.mpr g) q⟩, fun q => absurd (rng_iff.mpr h) q⟩, fun m _ hI k => bk_X10_write_0 ⟨fun _ => ⟨fun _ => ⟨hin, fun q => ?_, fun _ => ?_⟩, fun q => absurd g q⟩, fun q => absurd h q⟩⟩
        · exact k _ ((Fr.up1 _ _ _).CT (by decide)) (IC.found hI 1)
        · rw [hcl, (hI.2.2.2.2.1 s (by omega)).1] at q
          exact absurd (not_not_intro hl) q
        · rw [hcl, (hI.2.2.2.1 s (by omega)).1, sf_ge hO.2.2 (by omega)] at q
          exact absurd hl q
        · exact k _ ((Fr.up1 _ _ _).RT (by decide)) (IR.found hI 1)
      · refine ⟨nI (if sl s < ln (lw 0) n then sl s else ln (lw 0) n), (tx, u, lw, ow, sf, sl, pm_upR si s (wrF (lw 0) n (si s) (if sl s < ln (lw 0) n then sl s else ln (lw 0) n)), lt), hO, fun m Q hI k => bk_X9_write_0 ⟨fun _ => ⟨fun _ => ⟨hin, fun q => ?_, fun _ => ?_⟩, fun q => absurd (rng_iff.mpr g) q⟩, fun q => absurd (rng_iff.mpr h) q⟩, fun m Q hI k => bk_X10_write_0 ⟨fun _ => ⟨fun _ => ⟨hin, fun _ => ?_, fun q => ?_⟩, fun q => absurd g q⟩, fun q => absurd h q⟩⟩
        · rw [hcl, (hI.2.2.2.2.1 s (by omega)).1] at q
          exact absurd hl q
        · have hI : IC m tx u lw ow sf sl si lt := hI
          rw [hcl]
          refine c_split hO.1 hI.2.2.1 (by omega) (fun m1 f1 f2 => ?_)
          refine bk_X9_write_49 (shN (by omega)) ?_
          have hI1 : IC m1 tx u lw ow sf sl si lt := IC.sheet hI (fun t t1 t2 => f1 t (by simp only [List.mem_cons, List.not_mem_nil, or_false]; omega)) (hI.2.2.2.2.1.fr (fun t t1 t2 => f1 t (by simp only [List.mem_cons, List.not_mem_nil, or_false]; omega))) (by rw [f1 0 (by decide)]; exact hI.2.2.2.2.2.1)
          rw [(hI1.2.2.2.2.1 s (by omega)).2.1, nI_min (by omega) (by omega)]
          refine c_write_65 (w := if sl s < ln (lw 0) n then sl s else ln (lw 0) n) hO hn (by omega) (by split <;> omega) (m0 := m) (fun mem' g1 g2 => k mem' g1 g2) (if sl s < ln (lw 0) n then sl s else ln (lw 0) n) 0 m1 (Nat.zero_add _) (f1.CT (by decide)) f2 (by rw [wrF_0, upR_self]; exact hI1)
        · have hI : IR m tx u lw ow sf sl si lt := hI
          have hwb : lw 0 ^ (ln (lw 0) n - 1) ≤ 9999 := by
            rcases Nat.eq_zero_or_pos n with z | z
            · rw [z, ln_0]; simp
            · exact Nat.le_trans (ln_pow_le hO.1.1 n z) hn
          refine r_write_40 hO.1 hn hI.2.1 ?_ n 0 (by simp) (by simp)
          have e : n % lw 0 ^ (ln (lw 0) n - 0) = n := Nat.mod_eq_of_lt (ln_pow hO.1.1 n)
          have := r_write_86 (ro := ro) (Q := Q) (d6 := 0) hO hn (show s < 4 by omega) hl (m0 := m) (fun mem' g1 g2 => k mem' g1 g2) (if sl s < ln (lw 0) n then sl s else ln (lw 0) n) 0 m (lw 0 ^ (ln (lw 0) n - 1)) (Nat.zero_add _) (fun _ => rfl) hwb (Fr.rf _ _) (by rw [wrF_0, upR_self]; exact hI)
          rw [e] at this
          exact this
        · rw [hcl, (hI.2.2.2.1 s (by omega)).1, sf_ge hO.2.2 (by omega)] at q
          exact absurd hl q
    · exact ⟨-2, (tx, u, lw, ow, sf, sl, si, lt), hO, fun m _ hI k => bk_X9_write_0 ⟨fun q => ⟨fun q2 => absurd (rng_iff.mp q2) g, fun _ => k m (Fr.rf _ _) hI⟩, fun _ => k m (Fr.rf _ _) hI⟩, fun m _ hI k => bk_X10_write_0 ⟨fun _ => ⟨fun q2 => absurd q2 g, fun _ => k m (Fr.rf _ _) hI⟩, fun _ => k m (Fr.rf _ _) hI⟩⟩
  · exact ⟨-2, (tx, u, lw, ow, sf, sl, si, lt), hO, fun m _ hI k => bk_X9_write_0 ⟨fun q => absurd (rng_iff.mp q) h, fun _ => k m (Fr.rf _ _) hI⟩, fun m _ hI k => bk_X10_write_0 ⟨fun q => absurd q h, fun _ => k m (Fr.rf _ _) hI⟩⟩
end WRT
