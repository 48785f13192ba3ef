/-! the text, and the GOODS that it tells -/
def Fr (T : List Nat) (mem mem' : pm_M) : Prop := ∀ t, t ∉ T → mem' t = mem t
theorem Fr.rf (T : List Nat) (mem : pm_M) : Fr T mem mem := fun _ _ => rfl
theorem Fr.tr {T : List Nat} {a b c : pm_M} (h1 : Fr T a b) (h2 : Fr T b c) : Fr T a c := fun t ht => (h2 t ht).trans (h1 t ht)
theorem Fr.up {T : List Nat} {a b : pm_M} (h : Fr T a b) {t : Nat} (ht : t ∈ T) (k : Nat) (x : Int32) : Fr T a (pm_up b t k x) := fun q hq => by
  have : q ≠ t := fun e => hq (e ▸ ht)
  simp only [pm_up]
  rw [if_neg this]
  exact h q hq
theorem Fr.sub {T T' : List Nat} {a b : pm_M} (h : Fr T a b) (hs : ∀ t ∈ T, t ∈ T') : Fr T' a b := fun t ht => h t (fun q => ht (hs t q))
theorem up_t (mem : pm_M) (t k : Nat) (x : Int32) : pm_up mem t k x t = upd (mem t) k x := by simp [pm_up]
theorem up_n {mem : pm_M} {t q k : Nat} {x : Int32} (h : q ≠ t) : pm_up mem t k x q = mem q := by simp [pm_up, h]
theorem up_tk (mem : pm_M) (t k : Nat) (x : Int32) : pm_up mem t k x t k = x := by simp [pm_up, upd]
theorem up_tj {mem : pm_M} {t k j : Nat} {x : Int32} (h : j ≠ k) : pm_up mem t k x t j = mem t j := by simp [pm_up, upd, h]
def bt (tx : Nat → Nat) (u i : Nat) : Nat := if i < u then tx i else 256
def btI (tx : Nat → Nat) (u i : Nat) : Int32 := if i < u then nI (tx i) else -1
def dg (n : Nat) : Bool := decide (48 ≤ n) && decide (n ≤ 57)
/-- up to m figures from s on: where they end, their number behind v -/
def scan (tx : Nat → Nat) (u : Nat) : Nat → Nat → Nat → Nat × Nat
  | 0, s, v => (s, v)
  | m + 1, s, v => bif dg (bt tx u s) then scan tx u m (s + 1) (10 * v + (bt tx u s - 48)) else (s, v)
def updN (p : Nat → Nat) (g v : Nat) : Nat → Nat := fun j => if j = g then v else p j
/-- at most m GOODS from the place s on: the FAULT, and what was read till then -/
def pz (tx : Nat → Nat) (u : Nat) : Nat → Nat → Nat → (Nat → Nat) → Nat → Option Nat × Nat × (Nat → Nat) × Nat
  | 0, g, s, p, w => (some s, g, p, w)
  | m + 1, g, s, p, w =>
    if (scan tx u 3 s 0).2 = 0 then (some s, g, p, w)
    else if bt tx u (scan tx u 3 s 0).1 = 119 ∨ bt tx u (scan tx u 3 s 0).1 = 116 then
      if (scan tx u 3 s 0).1 + 1 = u then (none, g + 1, updN p g (scan tx u 3 s 0).2, w + (if bt tx u (scan tx u 3 s 0).1 = 119 then 2 ^ g else 0))
      else if bt tx u ((scan tx u 3 s 0).1 + 1) = 59 then pz tx u m (g + 1) ((scan tx u 3 s 0).1 + 2) (updN p g (scan tx u 3 s 0).2) (w + (if bt tx u (scan tx u 3 s 0).1 = 119 then 2 ^ g else 0))
      else (some ((scan tx u 3 s 0).1 + 1), g + 1, updN p g (scan tx u 3 s 0).2, w + (if bt tx u (scan tx u 3 s 0).1 = 119 then 2 ^ g else 0))
    else (some (scan tx u 3 s 0).1, g, p, w)
def PZ (tx : Nat → Nat) (u : Nat) : Option Nat × Nat × (Nat → Nat) × Nat := if u = 0 then (none, 0, fun _ => 0, 0) else pz tx u 8 0 0 (fun _ => 0) 0
def pzF (tx : Nat → Nat) (u : Nat) : Int32 := match (PZ tx u).1 with
  | none => -1
  | some f => nI f
def pzG (tx : Nat → Nat) (u : Nat) : Nat := match (PZ tx u).1 with
  | none => (PZ tx u).2.1
  | some _ => 0
def pzW (tx : Nat → Nat) (u : Nat) : Nat := match (PZ tx u).1 with
  | none => (PZ tx u).2.2.2
  | some _ => 0
def pzP (tx : Nat → Nat) (u : Nat) : Nat → Nat := (PZ tx u).2.2.1
theorem scan_end (tx : Nat → Nat) (u : Nat) : ∀ (m s v : Nat), s ≤ (scan tx u m s v).1 ∧ (scan tx u m s v).1 ≤ s + m := by
  intro m
  induction m with
  | zero => intro s v; exact ⟨Nat.le_refl _, Nat.le_refl _⟩
  | succ m ih =>
    intro s v
    simp only [scan]
    cases dg (bt tx u s) with
    | false => exact ⟨Nat.le_refl _, by simp⟩
    | true =>
      have := ih (s + 1) (10 * v + (bt tx u s - 48))
      simp only [cond_true]
      omega
theorem scan_u (tx : Nat → Nat) (u : Nat) : ∀ (m s v : Nat), s ≤ u → (scan tx u m s v).1 ≤ u := by
  intro m
  induction m with
  | zero => intro s v h; exact h
  | succ m ih =>
    intro s v h
    simp only [scan]
    cases hd : dg (bt tx u s) with
    | false => exact h
    | true =>
      simp only [cond_true]
      refine ih _ _ ?_
      rcases Nat.lt_or_ge s u with q | q
      · omega
      · have e : bt tx u s = 256 := by simp only [bt]; rw [if_neg (by omega)]
        rw [e] at hd
        simp [dg] at hd
theorem scan_lt (tx : Nat → Nat) (u : Nat) : ∀ (m s v c : Nat), v < c → (scan tx u m s v).2 < c * 10 ^ m := by
  intro m
  induction m with
  | zero => intro s v c h; simpa [scan] using h
  | succ m ih =>
    intro s v c h
    simp only [scan]
    cases hd : dg (bt tx u s) with
    | false =>
      simp only [cond_false]
      have : 0 < 10 ^ (m + 1) := Nat.pow_pos (by decide)
      exact Nat.lt_of_lt_of_le h (Nat.le_mul_of_pos_right c this)
    | true =>
      simp only [cond_true]
      simp only [dg, Bool.and_eq_true, decide_eq_true_eq] at hd
      have := ih (s + 1) (10 * v + (bt tx u s - 48)) (c * 10) (by omega)
      rw [Nat.pow_succ, Nat.mul_comm (10 ^ m) 10, ← Nat.mul_assoc]
      exact this
/-- what holds of the GOODS that were read -/
theorem pz_ok (tx : Nat → Nat) (u : Nat) : ∀ (m g s : Nat) (p : Nat → Nat) (w : Nat), w < 2 ^ g → (∀ j, j < g → 1 ≤ p j ∧ p j ≤ 999) → (pz tx u m g s p w).1 = none →
    (pz tx u m g s p w).2.1 ≤ g + m ∧ (pz tx u m g s p w).2.2.2 < 2 ^ (pz tx u m g s p w).2.1 ∧ ∀ j, j < (pz tx u m g s p w).2.1 → 1 ≤ (pz tx u m g s p w).2.2.1 j ∧ (pz tx u m g s p w).2.2.1 j ≤ 999 := by
  intro m
  induction m with
  | zero => intro g s p w _ _ h; simp [pz] at h
  | succ m ih =>
    intro g s p w hw hp h
    have hl := scan_lt tx u 3 s 0 1 (by decide)
    have hw' : w + (if bt tx u (scan tx u 3 s 0).1 = 119 then 2 ^ g else 0) < 2 ^ (g + 1) := by
      rw [Nat.pow_succ]; split <;> omega
    simp only [pz] at h ⊢
    split at h
    · cases h
    · next hv =>
      have hp' : ∀ j, j < g + 1 → 1 ≤ updN p g (scan tx u 3 s 0).2 j ∧ updN p g (scan tx u 3 s 0).2 j ≤ 999 := by
        intro j hj
        simp only [updN]
        split
        · omega
        · exact hp j (by omega)
      rw [if_neg hv]
      split at h
      · next hc =>
        rw [if_pos hc]
        split at h
        · next hu =>
          rw [if_pos hu]
          exact ⟨by simp only; omega, hw', hp'⟩
        · next hu =>
          rw [if_neg hu]
          split at h
          · next hs =>
            rw [if_pos hs]
            have := ih (g + 1) _ _ _ hw' hp' h
            exact ⟨by omega, this.2⟩
          · cases h
      · cases h
theorem pzG_le (tx : Nat → Nat) (u : Nat) : pzG tx u ≤ 8 := by
  unfold pzG PZ
  by_cases hu : u = 0
  · simp [hu]
  · simp only [if_neg hu]
    cases h : (pz tx u 8 0 0 (fun _ => 0) 0).1 with
    | none => exact (pz_ok tx u 8 0 0 _ 0 (by decide) (fun j h => by omega) h).1
    | some f => exact Nat.zero_le _
theorem pzW_lt (tx : Nat → Nat) (u : Nat) : pzW tx u < 2 ^ pzG tx u := by
  unfold pzG pzW PZ
  by_cases hu : u = 0
  · simp [hu]
  · simp only [if_neg hu]
    cases h : (pz tx u 8 0 0 (fun _ => 0) 0).1 with
    | none => exact (pz_ok tx u 8 0 0 _ 0 (by decide) (fun j h => by omega) h).2.1
    | some f => exact (by decide : 0 < 2 ^ 0)
theorem pzP_ok (tx : Nat → Nat) (u : Nat) : ∀ j, j < pzG tx u → 1 ≤ pzP tx u j ∧ pzP tx u j ≤ 999 := by
  unfold pzG pzP PZ
  by_cases hu : u = 0
  · simp [hu]
  · simp only [if_neg hu]
    cases h : (pz tx u 8 0 0 (fun _ => 0) 0).1 with
    | none => exact (pz_ok tx u 8 0 0 _ 0 (by decide) (fun j h => by omega) h).2.2
    | some f => intro j hj; exact absurd hj (by simp)
theorem btI_dg {tx : Nat → Nat} {u : Nat} (htx : ∀ j, j < u → tx j < 256) (i : Nat) : (¬ btI tx u i < 48 ∧ ¬ (57 : Int32) < btI tx u i) ↔ dg (bt tx u i) = true := by
  unfold btI bt dg
  by_cases h : i < u
  · have := htx i h
    rw [if_pos h, if_pos h, show (48 : Int32) = nI 48 from rfl, show (57 : Int32) = nI 57 from rfl, nI_ltI (by omega) (by decide), nI_ltI (by decide) (by omega)]
    simp
  · rw [if_neg h, if_neg h]; simp
theorem btI_eq {tx : Nat → Nat} {u : Nat} (htx : ∀ j, j < u → tx j < 256) (i : Nat) {c : Nat} (hc : c < 256) : btI tx u i = nI c ↔ bt tx u i = c := by
  unfold btI bt
  by_cases h : i < u
  · have := htx i h
    rw [if_pos h, if_pos h, nI_eq (by omega) (by omega)]
  · rw [if_neg h, if_neg h]
    constructor
    · intro q
      have := congrArg Int32.toInt q
      rw [nI_toInt (by omega)] at this
      have e : (-1 : Int32).toInt = -1 := by decide
      rw [e] at this
      omega
    · intro q; omega
theorem btI_d {tx : Nat → Nat} {u i : Nat} (h : dg (bt tx u i) = true) : btI tx u i = nI (bt tx u i) ∧ 48 ≤ bt tx u i ∧ bt tx u i ≤ 57 ∧ i < u := by
  simp only [dg, Bool.and_eq_true, decide_eq_true_eq] at h
  have hi : i < u := by
    rcases Nat.lt_or_ge i u with q | q
    · exact q
    · simp only [bt] at h; rw [if_neg (by omega)] at h; omega
  refine ⟨?_, h.1, h.2, hi⟩
  simp only [btI, bt]; rw [if_pos hi, if_pos hi]
/-- one figure more -/
theorem nI_fig {v c : Nat} (h : 48 ≤ c) : nI (v * 10) + nI c - 48 = nI (10 * v + (c - 48)) := by
  rw [nI_add, show (48 : Int32) = nI 48 from rfl, pk_sub (by omega)]
  congr 1; omega
section TXC
variable {ro : pm_RO} {Q : Option Value → pm_M → Prop} {mem : pm_M} {tx : Nat → Nat} {u : Nat}
/-- the class's text -/
def TC (mem : pm_M) (tx : Nat → Nat) (u : Nat) : Prop := u ≤ 50 ∧ mem 3 2 = nI u ∧ (∀ j, j < u → mem 4 j = nI (tx j)) ∧ ∀ j, j < u → tx j < 256
theorem TC.fr {mem' : pm_M} (h : TC mem tx u) (h2 : mem' 3 2 = mem 3 2) (h4 : mem' 4 = mem 4) : TC mem' tx u := ⟨h.1, by rw [h2]; exact h.2.1, by rw [h4]; exact h.2.2.1, h.2.2.2⟩
theorem sp_byteAt (h : TC mem tx u) {i : Nat} (hi : i < 2 ^ 20) (k : Q (some (.int (btI tx u i))) mem) : pm_Ex ro m_X1_byteAt 0 [.ref 3, .int (nI i)] [] mem Q := by
  obtain ⟨hu, h2, h4, -⟩ := h
  refine bk_X1_byteAt_0 ⟨fun q => absurd q (nI_pos (by omega)), fun _ => ⟨fun q => ?_, fun q => ?_⟩⟩
  · rw [h2, nI_leI (by omega) (by omega)] at q
    simp only [btI] at k
    rw [if_neg (by omega)] at k
    exact k
  · rw [h2, nI_leI (by omega) (by omega)] at q
    simp only [btI] at k
    rw [if_pos (by omega)] at k
    refine ⟨nI_inb (by omega) (by decide), ?_⟩
    rw [nI_clamp (by omega), h4 i (by omega)]
    exact k
theorem sp_eof_2 (h : TC mem tx u) {s0 : Nat} (hs0 : s0 < 2 ^ 18) : ∀ (m s v : Nat), s + m = s0 + 3 → s < 2 ^ 19 → Q (some (.int (nI (scan tx u m s v).1))) mem → pm_Ex ro m_X1_endOfFigures 2 [.ref 3, .int (nI s0), .int (nI s)] [] mem Q := by
  intro m
  induction m with
  | zero =>
    intro s v h1 h2 k
    refine bk_X1_endOfFigures_2 ⟨fun _ => k, fun q => ?_⟩
    rw [show (3 : Int32) = nI 3 from rfl, nI_add, nI_leI (by omega) (by omega)] at q
    omega
  | succ m ih =>
    intro s v h1 h2 k
    refine bk_X1_endOfFigures_2 ⟨fun q => ?_, fun q => ?_⟩
    · rw [show (3 : Int32) = nI 3 from rfl, nI_add, nI_leI (by omega) (by omega)] at q
      omega
    refine sp_byteAt h (by omega) ?_
    have hdg := btI_dg h.2.2.2 s
    cases hd : dg (bt tx u s) with
    | false =>
      simp only [scan, hd, cond_false] at k
      rw [hd] at hdg
      refine bk_X1_endOfFigures_14 ⟨fun _ => k, fun q => ?_⟩
      refine sp_byteAt h (by omega) ?_
      refine bk_X1_endOfFigures_24 ⟨fun _ => k, fun q2 => ?_⟩
      exact absurd (hdg.mp ⟨q, q2⟩) (by decide)
    | true =>
      simp only [scan, hd, cond_true] at k
      have q := hdg.mpr hd
      refine bk_X1_endOfFigures_14 ⟨fun z => absurd z q.1, fun _ => ?_⟩
      refine sp_byteAt h (by omega) ?_
      refine bk_X1_endOfFigures_24 ⟨fun z => absurd z q.2, fun _ => ?_⟩
      rw [nI_1]
      exact ih (s + 1) _ (by omega) (by omega) k
theorem sp_eof (h : TC mem tx u) {s : Nat} (hs : s < 2 ^ 18) (k : Q (some (.int (nI (scan tx u 3 s 0).1))) mem) : pm_Ex ro m_X1_endOfFigures 0 [.ref 3, .int (nI s), .null] [] mem Q :=
  bk_X1_endOfFigures_0 (sp_eof_2 h hs 3 s 0 rfl (by omega) k)
theorem sp_nb_5 (h : TC mem tx u) {s0 e : Nat} : ∀ (m s v : Nat), (scan tx u m s v).1 = e → s + m < 2 ^ 19 → m ≤ 3 → Q (some (.int (nI (scan tx u m s v).2))) mem → pm_Ex ro m_X1_numberBetween 5 [.ref 3, .int (nI s0), .int (nI e), .int (nI v), .int (nI s)] [] mem Q := by
  intro m
  induction m with
  | zero =>
    intro s v h1 h2 _ k
    refine bk_X1_numberBetween_5 ⟨fun _ => k, fun q => ?_⟩
    have h1 : s = e := h1
    subst h1
    rw [nI_leI (by omega) (by omega)] at q
    omega
  | succ m ih =>
    intro s v h1 h2 hm k
    cases hd : dg (bt tx u s) with
    | false =>
      simp only [scan, hd, cond_false] at k h1
      subst h1
      refine bk_X1_numberBetween_5 ⟨fun _ => k, fun q => ?_⟩
      rw [nI_leI (by omega) (by omega)] at q
      omega
    | true =>
      simp only [scan, hd, cond_true] at k h1
      have he := scan_end tx u m (s + 1) (10 * v + (bt tx u s - 48))
      refine bk_X1_numberBetween_5 ⟨fun q => ?_, fun q => ?_⟩
      · rw [nI_leI (by omega) (by omega)] at q
        omega
      refine sp_byteAt h (by omega) ?_
      refine bk_X1_numberBetween_21 ?_
      obtain ⟨b1, b2, b3, b4⟩ := btI_d hd
      rw [b1, show (10 : Int32) = nI 10 from rfl, pk_mul, nI_fig b2, nI_1]
      exact ih (s + 1) _ h1 (by omega) (by omega) k
theorem sp_nb (h : TC mem tx u) {s : Nat} (hs : s < 2 ^ 18) (k : Q (some (.int (nI (scan tx u 3 s 0).2))) mem) : pm_Ex ro m_X1_numberBetween 0 [.ref 3, .int (nI s), .int (nI (scan tx u 3 s 0).1), .null, .null] [] mem Q :=
  bk_X1_numberBetween_0 (sp_nb_5 h 3 s 0 rfl (by omega) (by omega) k)
end TXC
