/-! rent -/
def rbest (mo : Bool) (x t : Int32) : Int32 := bif mo then (if t ≤ x then x else t) else (if x ≤ t then x else t)
def rfold (mo : Bool) (pd g : Nat → Int32) (r : Nat) : Nat → Int32
  | 0 => g r
  | c + 1 => rbest mo (rfold mo pd g r c) (pd (c + 1) + g (r - (c + 1)))
def rlev (mo : Bool) (pd : Nat → Int32) : Nat → Nat → Int32
  | 0 => pd
  | m + 1 => fun r => rfold mo pd (rlev mo pd m) r r
theorem rfold_congr (mo : Bool) (pd : Nat → Int32) {g g' : Nat → Int32} (r : Nat) (h : ∀ q, q ≤ r → g q = g' q) : ∀ c, c ≤ r → rfold mo pd g r c = rfold mo pd g' r c := by
  intro c
  induction c with
  | zero => intro _; exact h r (Nat.le_refl _)
  | succ c ih => intro hc; simp only [rfold]; rw [ih (by omega), h (r - (c + 1)) (by omega)]
section RNT
variable {ro : pm_RO} {Q : Option Value → pm_M → Prop} {lw : Nat → Nat}
def pdI (lw : Nat → Nat) (n : Nat) : Int32 := nI (PD lw n)
theorem c_bot {mem : pm_M} {mo : Bool} {pd g : Nat → Int32} {w : Nat} (hw : w ≤ 120) (h18 : ∀ q, q ≤ w → mem 18 q = pd q) (h19 : ∀ q, q ≤ w → mem 19 q = g q) (k : Q (some (.int (rfold mo pd g w w))) mem) : pm_Ex ro m_X3_bestOfTwo 0 [.ref 17, .int (nI w), .int (bif mo then 1 else 0), .null, .null, .null] [] mem Q := by
  refine bk_X3_bestOfTwo_0 ⟨nI_inb (by omega) (by decide), ?_⟩
  rw [nI_clamp (by omega), h19 w (Nat.le_refl _)]
  have key : ∀ (d c : Nat), c + d = w → ∀ {d5 : Value}, pm_Ex ro m_X3_bestOfTwo 10 [.ref 17, .int (nI w), .int (bif mo then 1 else 0), .int (rfold mo pd g w c), .int (nI (c + 1)), d5] [] mem Q := by
    intro d
    induction d with
    | zero =>
      intro c hc d5
      have : c = w := by omega
      subst this
      refine bk_X3_bestOfTwo_10 ⟨fun _ => k, fun q => ?_⟩
      rw [nI_ltI (by omega) (by omega)] at q; omega
    | succ d ih =>
      intro c hc d5
      refine bk_X3_bestOfTwo_10 ⟨fun q => ?_, fun _ => ?_⟩
      · rw [nI_ltI (by omega) (by omega)] at q; omega
      rw [pk_sub (by omega), nI_clamp (by omega), nI_clamp (by omega), h18 (c + 1) (by omega), h19 (w - (c + 1)) (by omega), nI_1]
      refine ⟨nI_inb (by omega) (by decide), nI_inb (by omega) (by decide), ?_⟩
      have e : (if (bif mo then 1 else 0 : Int32) = 0 then (if rfold mo pd g w c ≤ (pd (c + 1) + g (w - (c + 1))) then rfold mo pd g w c else pd (c + 1) + g (w - (c + 1)) : Int32) else (if (pd (c + 1) + g (w - (c + 1))) ≤ rfold mo pd g w c then rfold mo pd g w c else pd (c + 1) + g (w - (c + 1)) : Int32) : Int32) = rfold mo pd g w (c + 1) := by
        cases mo <;> rfl
      rw [e]
      exact ih (c + 1) (by omega)
  exact key w 0 (Nat.zero_add _)
theorem c_part_57 {mo : Bool} {pd g : Nat → Int32} {r mo' ms : Nat} (hr : r ≤ 120) {m0 : pm_M} (k : ∀ mem' : pm_M, Fr [18, 19] m0 mem' → (∀ q, q ≤ r → mem' 18 q = pd q) → (∀ q, q ≤ r → mem' 19 q = rfold mo pd g q q) → ∀ {d : Value}, pm_Ex ro m_X3_part 48 [.ref 17, .int (nI r), .int (nI ms), .int (bif mo then 1 else 0), .int (nI (mo' + 1)), d] [] mem' Q) : ∀ (c : Nat) (mem : pm_M), c ≤ r + 1 → Fr [18, 19] m0 mem → (∀ q, q ≤ r → mem 18 q = pd q) → (∀ q, q ≤ r → mem 19 q = if c ≤ q then rfold mo pd g q q else g q) → pm_Ex ro m_X3_part 57 [.ref 17, .int (nI r), .int (nI ms), .int (bif mo then 1 else 0), .int (nI mo'), .int (nI c + (-1))] [] mem Q := by
  intro c
  induction c with
  | zero =>
    intro mem hc hF h18 h19
    refine bk_X3_part_57 ⟨fun _ => ?_, fun q => absurd (by decide) q⟩
    rw [nI_1]
    exact k mem hF h18 (fun q hq => by rw [h19 q hq, if_pos (Nat.zero_le _)])
  | succ c ih =>
    intro mem hc hF h18 h19
    rw [pk_m1]
    refine bk_X3_part_57 ⟨fun q => absurd q (nI_pos (by omega)), fun _ => ?_⟩
    refine c_bot (mo := mo) (pd := pd) (g := g) (by omega) (fun q hq => h18 q (by omega)) (fun q hq => by rw [h19 q (by omega), if_neg (by omega)]) ?_
    refine bk_X3_part_75 ⟨nI_inb (by omega) (by decide), ?_⟩
    rw [nI_clamp (by omega)]
    refine ih _ (by omega) (hF.up (by decide) _ _) (fun q hq => by rw [up_n (by decide)]; exact h18 q hq) (fun q hq => ?_)
    rw [up_t]
    simp only [upd]
    by_cases h1 : q = c
    · rw [if_pos h1, if_pos (by omega), h1]
    · rw [if_neg h1, h19 q hq]
      by_cases h2 : c ≤ q
      · rw [if_pos h2, if_pos (by omega)]
      · rw [if_neg h2, if_neg (by omega)]
theorem c_part_48 {mo : Bool} {pd : Nat → Int32} {r ms : Nat} (hr : r ≤ 120) (hms : ms ≤ 6) {m0 : pm_M} (k : ∀ mem' : pm_M, Fr [18, 19] m0 mem' → Q (some (.int (rlev mo pd (ms - 1) r))) mem') : ∀ (d l : Nat) (mem : pm_M), l + 1 + d = ms → Fr [18, 19] m0 mem → (∀ q, q ≤ r → mem 18 q = pd q) → (∀ q, q ≤ r → mem 19 q = rlev mo pd l q) → ∀ {d5 : Value}, pm_Ex ro m_X3_part 48 [.ref 17, .int (nI r), .int (nI ms), .int (bif mo then 1 else 0), .int (nI (l + 2)), d5] [] mem Q := by
  intro d
  induction d with
  | zero =>
    intro l mem hl hF h18 h19 d5
    refine bk_X3_part_48 ⟨fun _ => ⟨nI_inb (by omega) (by decide), ?_⟩, fun q => ?_⟩
    · rw [nI_clamp (by omega), h19 r (Nat.le_refl _)]
      have e : l = ms - 1 := by omega
      rw [e]
      exact k mem hF
    · rw [nI_ltI (by omega) (by omega)] at q; omega
  | succ d ih =>
    intro l mem hl hF h18 h19 d5
    refine bk_X3_part_48 ⟨fun q => ?_, fun _ => ?_⟩
    · rw [nI_ltI (by omega) (by omega)] at q; omega
    have := c_part_57 (ro := ro) (Q := Q) (mo := mo) (pd := pd) (g := rlev mo pd l) (mo' := l + 2) (ms := ms) hr (m0 := m0) (fun mem' f1 f2 f3 => ih (l + 1) mem' (by omega) f1 f2 (fun q hq => f3 q hq)) (r + 1) mem (Nat.le_refl _) hF h18 (fun q hq => by rw [h19 q hq, if_neg (by omega)])
    rw [pk_m1] at this
    exact this
theorem c_part (hO : OKL lw) {mo : Bool} {r ms : Nat} (hr : r ≤ 120) (hms : 1 ≤ ms ∧ ms ≤ 6) {m0 : pm_M} (hL : LC m0 lw) (k : ∀ mem' : pm_M, Fr [18, 19] m0 mem' → Q (some (.int (rlev mo (pdI lw) (ms - 1) r))) mem') : pm_Ex ro m_X3_part 0 [.ref 17, .int (nI r), .int (nI ms), .int (bif mo then 1 else 0), .null, .null] [] m0 Q := by
  refine bk_X3_part_0 ?_
  have key : ∀ (d c : Nat) (mem : pm_M), c + d = r + 1 → Fr [18, 19] m0 mem → (∀ q, q < c → mem 18 q = pdI lw q) → (∀ q, q < c → mem 19 q = pdI lw q) → pm_Ex ro m_X3_part 3 [.ref 17, .int (nI r), .int (nI ms), .int (bif mo then 1 else 0), .int (nI c), .null] [] mem Q := by
    intro d
    induction d with
    | zero =>
      intro c mem hc hF h18 h19
      refine bk_X3_part_3 ⟨fun _ => ?_, fun q => ?_⟩
      · exact c_part_48 hr hms.2 k (ms - 1) 0 mem (by omega) hF (fun q hq => h18 q (by omega)) (fun q hq => h19 q (by omega))
      · rw [nI_ltI (by omega) (by omega)] at q; omega
    | succ d ih =>
      intro c mem hc hF h18 h19
      refine bk_X3_part_3 ⟨fun q => ?_, fun _ => ?_⟩
      · rw [nI_ltI (by omega) (by omega)] at q; omega
      refine pdC hO (hL.fr (hF 2 (by decide))) (by omega) ?_
      refine bk_X3_part_24 ⟨nI_inb (by omega) (by decide), nI_inb (by omega) (by decide), nI_inb (by omega) (by decide), ?_⟩
      rw [nI_clamp (by omega), up_tk, nI_1]
      refine ih (c + 1) _ (by omega) ((hF.up (by decide) _ _).up (by decide) _ _) (fun q hq => ?_) (fun q hq => ?_)
      · rw [up_n (by decide), up_t]
        simp only [upd]
        split
        · next e => rw [e]; rfl
        · exact h18 q (by omega)
      · rw [up_t, up_n (by decide)]
        simp only [upd]
        split
        · next e => rw [e]; rfl
        · exact h19 q (by omega)
  exact key (r + 1) 0 m0 (Nat.zero_add _) (Fr.rf _ _) (fun q hq => by omega) (fun q hq => by omega)
theorem r_rent_138 {g : Nat → Int32} {e : Int32} {r l ms : Nat} (hr : r ≤ 120) {m0 : pm_M} {d6 d7 d8 : Value} (k : ∀ mem' : pm_M, Fr [46, 47] m0 mem' → (∀ q, q ≤ r → mem' 46 q = g q) → ∀ {d5 : Value}, pm_Ex ro m_X10_rentOf 31 [.ref 33, .int (nI r), .int (nI ms), .int e, .int (nI (l + 1)), d5, d6, d7, d8] [] mem' Q) : ∀ (d c : Nat) (mem : pm_M), c + d = r + 1 → Fr [46, 47] m0 mem → (∀ q, q ≤ r → mem 47 q = g q) → (∀ q, q < c → mem 46 q = g q) → pm_Ex ro m_X10_rentOf 138 [.ref 33, .int (nI r), .int (nI ms), .int e, .int (nI l), .int (nI c), d6, d7, d8] [] mem Q := by
  intro d
  induction d with
  | zero =>
    intro c mem hc hF h47 h46
    refine bk_X10_rentOf_138 ⟨fun _ => ?_, fun q => ?_⟩
    · rw [nI_1]; exact k mem hF (fun q hq => h46 q (by omega))
    · rw [nI_ltI (by omega) (by omega)] at q; omega
  | succ d ih =>
    intro c mem hc hF h47 h46
    refine bk_X10_rentOf_138 ⟨fun q => ?_, fun _ => ⟨nI_inb (by omega) (by decide), nI_inb (by omega) (by decide), ?_⟩⟩
    · rw [nI_ltI (by omega) (by omega)] at q; omega
    rw [nI_clamp (by omega), nI_1, h47 c (by omega)]
    refine ih (c + 1) _ (by omega) (hF.up (by decide) _ _) (fun q hq => by rw [up_n (by decide)]; exact h47 q hq) (fun q hq => ?_)
    rw [up_t]
    simp only [upd]
    split
    · next e => rw [e]
    · exact h46 q (by omega)
theorem r_rent_58 (hO : OKL lw) {mo : Bool} {g : Nat → Int32} {r l ms w : Nat} (hr : r ≤ 120) (hw : w ≤ r) {mem : pm_M} (hL : LR mem lw) (h46 : ∀ q, q ≤ r → mem 46 q = g q) (k : ∀ {x7 d8 : Value}, pm_Ex ro m_X10_rentOf 40 [.ref 33, .int (nI r), .int (nI ms), .int (bif mo then 1 else 0), .int (nI l), .int (nI (w + 1)), .int (rfold mo (pdI lw) g w w), x7, d8] [] (pm_up mem 47 w (rfold mo (pdI lw) g w w)) Q) : ∀ (d c : Nat), c + d = w → ∀ {d8 : Value}, pm_Ex ro m_X10_rentOf 58 [.ref 33, .int (nI r), .int (nI ms), .int (bif mo then 1 else 0), .int (nI l), .int (nI w), .int (rfold mo (pdI lw) g w c), .int (nI (c + 1)), d8] [] mem Q := by
  intro d
  induction d with
  | zero =>
    intro c hc d8
    have : c = w := by omega
    subst this
    refine bk_X10_rentOf_58 ⟨fun _ => ⟨nI_inb (by omega) (by decide), ?_⟩, fun q => ?_⟩
    · rw [nI_clamp (by omega), nI_1]; exact k
    · rw [nI_ltI (by omega) (by omega)] at q; omega
  | succ d ih =>
    intro c hc d8
    refine bk_X10_rentOf_58 ⟨fun q => ?_, fun _ => ?_⟩
    · rw [nI_ltI (by omega) (by omega)] at q; omega
    refine pdR hO hL (by omega) ?_
    refine bk_X10_rentOf_71 ?_
    rw [pk_sub (by omega), nI_clamp (by omega), h46 (w - (c + 1)) (by omega), nI_1]
    refine ⟨nI_inb (by omega) (by decide), ?_⟩
    have e : (if ¬ (bif mo then 1 else 0 : Int32) = 0 then (if (nI (PD lw (c + 1)) + g (w - (c + 1))) ≤ rfold mo (pdI lw) g w c then rfold mo (pdI lw) g w c else nI (PD lw (c + 1)) + g (w - (c + 1)) : Int32) else (if rfold mo (pdI lw) g w c ≤ (nI (PD lw (c + 1)) + g (w - (c + 1))) then rfold mo (pdI lw) g w c else nI (PD lw (c + 1)) + g (w - (c + 1)) : Int32) : Int32) = rfold mo (pdI lw) g w (c + 1) := by
      cases mo <;> rfl
    rw [e]
    exact ih (c + 1) (by omega)
theorem r_rent_40 (hO : OKL lw) {mo : Bool} {g : Nat → Int32} {r l ms : Nat} (hr : r ≤ 120) {m0 : pm_M} (hL : LR m0 lw) (k : ∀ mem' : pm_M, Fr [46, 47] m0 mem' → (∀ q, q ≤ r → mem' 46 q = rfold mo (pdI lw) g q q) → ∀ {d5 d6 d7 d8 : Value}, pm_Ex ro m_X10_rentOf 31 [.ref 33, .int (nI r), .int (nI ms), .int (bif mo then 1 else 0), .int (nI (l + 1)), d5, d6, d7, d8] [] mem' Q) : ∀ (d c : Nat) (mem : pm_M), c + d = r + 1 → Fr [46, 47] m0 mem → (∀ q, q ≤ r → mem 46 q = g q) → (∀ q, q < c → mem 47 q = rfold mo (pdI lw) g q q) → ∀ {d6 d7 d8 : Value}, pm_Ex ro m_X10_rentOf 40 [.ref 33, .int (nI r), .int (nI ms), .int (bif mo then 1 else 0), .int (nI l), .int (nI c), d6, d7, d8] [] mem Q := by
  intro d
  induction d with
  | zero =>
    intro c mem hc hF h46 h47 d6 d7 d8
    refine bk_X10_rentOf_40 ⟨fun _ => ?_, fun q => ?_⟩
    · exact r_rent_138 (g := fun q => rfold mo (pdI lw) g q q) hr (m0 := m0) (fun mem' f1 f2 => k mem' f1 f2) (r + 1) 0 mem (Nat.zero_add _) hF (fun q hq => h47 q (by omega)) (fun q hq => by omega)
    · rw [nI_ltI (by omega) (by omega)] at q; omega
  | succ d ih =>
    intro c mem hc hF h46 h47 d6 d7 d8
    refine bk_X10_rentOf_40 ⟨fun q => ?_, fun _ => ⟨nI_inb (by omega) (by decide), ?_⟩⟩
    · rw [nI_ltI (by omega) (by omega)] at q; omega
    rw [nI_clamp (by omega), h46 c (by omega)]
    refine r_rent_58 hO (g := g) hr (show c ≤ r by omega) (hL.fr (hF 41 (by decide))) h46 (fun {x7 d8} => ?_) c 0 (Nat.zero_add _)
    refine ih (c + 1) _ (by omega) (hF.up (by decide) _ _) (fun q hq => by rw [up_n (by decide)]; exact h46 q hq) (fun q hq => ?_)
    rw [up_t]
    simp only [upd]
    split
    · next e => rw [e]
    · exact h47 q (by omega)
theorem r_rent_31 (hO : OKL lw) {mo : Bool} {r ms : Nat} (hr : r ≤ 120) (hms : ms ≤ 6) {m0 : pm_M} (hL : LR m0 lw) (k : ∀ mem' : pm_M, Fr [46, 47] m0 mem' → Q (some (.int (rlev mo (pdI lw) (ms - 1) r))) mem') : ∀ (d l : Nat) (mem : pm_M), l + 1 + d = ms → Fr [46, 47] m0 mem → (∀ q, q ≤ r → mem 46 q = rlev mo (pdI lw) l q) → ∀ {d5 d6 d7 d8 : Value}, pm_Ex ro m_X10_rentOf 31 [.ref 33, .int (nI r), .int (nI ms), .int (bif mo then 1 else 0), .int (nI (l + 1)), d5, d6, d7, d8] [] mem Q := by
  intro d
  induction d with
  | zero =>
    intro l mem hl hF h46 d5 d6 d7 d8
    refine bk_X10_rentOf_31 ⟨fun _ => ⟨nI_inb (by omega) (by decide), ?_⟩, fun q => ?_⟩
    · rw [nI_clamp (by omega), h46 r (Nat.le_refl _)]
      have e : l = ms - 1 := by omega
      rw [e]
      exact k mem hF
    · rw [nI_leI (by omega) (by omega)] at q; omega
  | succ d ih =>
    intro l mem hl hF h46 d5 d6 d7 d8
    refine bk_X10_rentOf_31 ⟨fun q => ?_, fun _ => ?_⟩
    · rw [nI_leI (by omega) (by omega)] at q; omega
    exact r_rent_40 hO (g := rlev mo (pdI lw) l) (l := l + 1) hr hL (fun mem' f1 f2 => ih (l + 1) mem' (by omega) f1 f2) (r + 1) 0 mem (Nat.zero_add _) hF h46 (fun q hq => by omega)
theorem r_rentOf (hO : OKL lw) {mo : Bool} {r ms : Nat} (hr : r ≤ 120) (hms : 1 ≤ ms ∧ ms ≤ 6) {m0 : pm_M} (hL : LR m0 lw) (k : ∀ mem' : pm_M, Fr [46, 47] m0 mem' → Q (some (.int (rlev mo (pdI lw) (ms - 1) r))) mem') : pm_Ex ro m_X10_rentOf 0 [.ref 33, .int (nI r), .int (nI ms), .int (bif mo then 1 else 0), .null, .null, .null, .null, .null] [] m0 Q := by
  refine bk_X10_rentOf_0 ?_
  have key : ∀ (d c : Nat) (mem : pm_M), c + d = r + 1 → Fr [46, 47] m0 mem → (∀ q, q < c → mem 46 q = pdI lw q) → pm_Ex ro m_X10_rentOf 3 [.ref 33, .int (nI r), .int (nI ms), .int (bif mo then 1 else 0), .int (nI c), .null, .null, .null, .null] [] mem Q := by
    intro d
    induction d with
    | zero =>
      intro c mem hc hF h46
      refine bk_X10_rentOf_3 ⟨fun _ => ?_, fun q => ?_⟩
      · exact r_rent_31 hO hr hms.2 hL k (ms - 1) 0 mem (by omega) hF (fun q hq => h46 q (by omega))
      · rw [nI_ltI (by omega) (by omega)] at q; omega
    | succ d ih =>
      intro c mem hc hF h46
      refine bk_X10_rentOf_3 ⟨fun q => ?_, fun _ => ?_⟩
      · rw [nI_ltI (by omega) (by omega)] at q; omega
      refine pdR hO (hL.fr (hF 41 (by decide))) (by omega) ?_
      refine bk_X10_rentOf_21 ⟨nI_inb (by omega) (by decide), ?_⟩
      rw [nI_clamp (by omega), nI_1]
      refine ih (c + 1) _ (by omega) (hF.up (by decide) _ _) (fun q hq => ?_)
      rw [up_t]
      simp only [upd]
      split
      · next e => rw [e]; rfl
      · exact h46 q (by omega)
  exact key (r + 1) 0 m0 (Nat.zero_add _) (Fr.rf _ _) (fun q hq => by omega)
end RNT
section RNA
variable {ro : pm_RO} {tx : Nat → Nat} {u : Nat} {lw ow : Nat → Nat} {sf : Nat → Int32} {sl : Nat → Nat} {si : Nat → Nat → Int32} {lt : Int32}
/-- a call that uses only rows which nobody reads again -/
theorem IC.scr {mem mem' : pm_M} {T : List Nat} (hI : IC mem tx u lw ow sf sl si lt) (hF : Fr T mem mem') (hT : ∀ t ∈ T, t ∈ [9, 10, 13, 14, 17, 18, 19, 20, 21, 22, 32]) : IC mem' tx u lw ow sf sl si lt := by
  have hF : Fr [9, 10, 13, 14, 17, 18, 19, 20, 21, 22, 32] mem mem' := hF.sub hT
  obtain ⟨h1, h2, h3, h4, h5, h6, h7, h8⟩ := hI
  exact ⟨h1.fr (congrFun (hF 3 (by decide)) 2) (hF 4 (by decide)), h2.fr (hF 3 (by decide)) (hF 5 (by decide)), h3.fr (hF 2 (by decide)), h4.fr (hF 12 (by decide)), h5.fr (fun t t1 t2 => hF t (by simp only [List.mem_cons, List.not_mem_nil, or_false]; omega)), by rw [hF 0 (by decide)]; exact h6, h7.fr (hF 6 (by decide)) (hF 7 (by decide)) (hF 8 (by decide)), h8.fr (hF 15 (by decide)) (hF 16 (by decide))⟩
theorem IR.scr {mem mem' : pm_M} {T : List Nat} (hI : IR mem tx u lw ow sf sl si lt) (hF : Fr T mem mem') (hT : ∀ t ∈ T, t ∈ [37, 39, 42, 43, 44, 45, 46, 47, 48]) : IR mem' tx u lw ow sf sl si lt := by
  have hF : Fr [37, 39, 42, 43, 44, 45, 46, 47, 48] mem mem' := hF.sub hT
  obtain ⟨h1, h2, h3, h4, h5⟩ := hI
  exact ⟨h1.fr (congrFun (hF 33 (by decide)) 6) (hF 38 (by decide)), h2.fr (hF 41 (by decide)), h3.fr (hF 40 (by decide)), h4.fr (hF 34 (by decide)) (hF 35 (by decide)) (hF 36 (by decide)), by rw [hF 33 (by decide)]; exact h5⟩
def rntA (lw : Nat → Nat) (a b c : Int32) : Int32 := if (0 ≤ a ∧ a ≤ 120) ∧ (1 ≤ b ∧ b ≤ 6) ∧ 0 ≤ c ∧ c ≤ 1 then rlev (decide (c = 1)) (pdI lw) (b.toNatClampNeg - 1) a.toNatClampNeg else -2
theorem rng1 {b : Int32} {n : Nat} (hn : n < 2 ^ 31) (h : 1 ≤ b ∧ b ≤ nI n) : ∃ j, 1 ≤ j ∧ j ≤ n ∧ b = nI j := by
  obtain ⟨j, hj, rfl⟩ := rng' hn ⟨by have := h.1; rw [Int32.le_iff_toInt_le] at this ⊢; have e1 : (1 : Int32).toInt = 1 := rfl; have e0 : (0 : Int32).toInt = 0 := rfl; omega, h.2⟩
  refine ⟨j, ?_, hj, rfl⟩
  have h1 : nI 1 ≤ nI j := h.1
  rw [nI_leI (by decide) (by omega)] at h1
  exact h1
theorem c_rent (hO : OKL lw) {mem : pm_M} {Q : Option Value → pm_M → Prop} (hI : IC mem tx u lw ow sf sl si lt) {a b c : Int32} (k : ∀ mem' : pm_M, Fr CT mem mem' → IC mem' tx u lw ow sf sl si lt → Q (some (.int (rntA lw a b c))) mem') : pm_Ex ro m_X9_rent 0 [.ref 0, .int a, .int b, .int c] [] mem Q := by
  unfold rntA at k
  refine bk_X9_rent_0 ⟨fun h1 => ⟨fun h2 => ⟨fun h3 => ?_, fun h3 => ?_⟩, fun h2 => ?_⟩, fun h1 => ?_⟩
  · have g1 := rng_iff.mp h1
    have g2 := rng_iff.mp h2
    have g3 := rng_iff.mp h3
    rw [if_pos ⟨g1, g2, g3⟩] at k
    obtain ⟨r, hr, rfl⟩ := rng' (n := 120) (by decide) g1
    obtain ⟨m, hm1, hm, rfl⟩ := rng1 (n := 6) (by decide) g2
    have e : zb (¬ (¬ c = 1)) = (bif decide (c = 1) then 1 else 0 : Int32) := by
      by_cases q : c = 1
      · rw [zb_pos (not_not_intro q), decide_eq_true q]; rfl
      · rw [zb_neg (not_not_intro q), decide_eq_false q]; rfl
    rw [e]
    rw [nI_clamp (by omega), nI_clamp (by omega)] at k
    refine c_part hO hr ⟨hm1, hm⟩ hI.2.2.1 (fun mem' f1 => bk_X9_rent_51 ?_)
    exact k mem' (f1.CT (by decide)) (hI.scr f1 (by decide))
  · rw [if_neg (fun q => h3 (rng_iff.mpr q.2.2))] at k; exact k mem (Fr.rf _ _) hI
  · rw [if_neg (fun q => h2 (rng_iff.mpr q.2.1))] at k; exact k mem (Fr.rf _ _) hI
  · rw [if_neg (fun q => h1 (rng_iff.mpr q.1))] at k; exact k mem (Fr.rf _ _) hI
theorem ag_rent (hO : OK lw ow sf sl) (a b c : Int32) : AGi ro m_X9_rent [.ref 0, .int a, .int b, .int c] m_X10_rent [.ref 33, .int a, .int b, .int c] (tx, u, lw, ow, sf, sl, si, lt) := by
  refine ⟨rntA lw a b c, (tx, u, lw, ow, sf, sl, si, lt), hO, fun m Q hI k => c_rent hO.1 hI k, fun m Q hI k => ?_⟩
  have hI : IR m tx u lw ow sf sl si lt := hI
  unfold rntA at k
  refine bk_X10_rent_0 ⟨fun g1 => ⟨fun g2 => ⟨fun g3 => ?_, fun h3 => ?_⟩, fun h2 => ?_⟩, fun h1 => ?_⟩
  · rw [if_pos ⟨g1, g2, g3⟩] at k
    obtain ⟨r, hr, rfl⟩ := rng' (n := 120) (by decide) g1
    obtain ⟨m', hm1, hm, rfl⟩ := rng1 (n := 6) (by decide) g2
    have e : c = (bif decide (c = 1) then 1 else 0 : Int32) := by
      obtain ⟨j, hj, rfl⟩ := rng' (n := 1) (by decide) g3
      rcases (show j = 0 ∨ j = 1 by omega) with rfl | rfl <;> decide
    rw [nI_clamp (by omega), nI_clamp (by omega)] at k
    generalize hmo : decide (c = 1) = mo at k e
    subst e
    refine r_rentOf hO.1 hr ⟨hm1, hm⟩ hI.2.1 (fun mem' f1 => bk_X10_rent_38 ?_)
    exact k mem' (f1.RT (by decide)) (hI.scr f1 (by decide))
  · rw [if_neg (fun q => h3 q.2.2)] at k; exact k m (Fr.rf _ _) hI
  · rw [if_neg (fun q => h2 q.2.1)] at k; exact k m (Fr.rf _ _) hI
  · rw [if_neg (fun q => h1 q.1)] at k; exact k m (Fr.rf _ _) hI
end RNA
