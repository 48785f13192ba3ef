/-! RUNS THAT END: goal first. -/
/-- the run from here ends, and what it gives satisfies Q -/
def pm_Ex (ro : pm_RO) (y pc : Nat) (ls st : List Value) (mem : pm_M) (Q : Option Value → pm_M → Prop) : Prop := ∃ (n : Nat) (v : Option Value) (mem' : pm_M), pm_run ro n y pc ls st mem = some (v, mem') ∧ Q v mem'
theorem pm_run_mono {ro : pm_RO} : ∀ (n : Nat) {y pc : Nat} {ls st : List Value} {mem : pm_M} {r : Option Value × pm_M}, pm_run ro n y pc ls st mem = some r → pm_run ro (n + 1) y pc ls st mem = some r := by
  intro n
  induction n with
  | zero => intro y pc ls st mem r h; cases h
  | succ n ih =>
    intro y pc ls st mem r h
    rw [pm_run] at h ⊢
    cases hsig : pm_sig[y]? with
    | none => simp only [hsig] at h; cases h
    | some S =>
      cases hcod : pm_cod[y]? with
      | none => simp only [hsig, hcod] at h; cases h
      | some rs =>
        simp only [hsig, hcod] at h ⊢
        cases hrow : pm_row rs pc with
        | none => simp only [hrow] at h; cases h
        | some q =>
          simp only [hrow] at h ⊢
          generalize hkd : pm_kind q = kd at h ⊢
          match kd, h with
          | 0, h =>
            simp only at h ⊢
            cases hst : pm_step ro q ls st mem with
            | none => simp only [hst] at h; cases h
            | some g =>
              obtain ⟨pc', ls', st', mem'⟩ := g
              simp only [hst] at h ⊢
              exact ih h
          | 1, h => exact h
          | k + 2, h =>
            simp only at h ⊢
            cases hsp : pm_isSp q with
            | true =>
              simp only [hsp, cond_true] at h ⊢
              cases hst : pm_spc q.2.2.2.2.1 (pc + 3) ls st mem with
              | none => simp only [hst] at h; cases h
              | some g =>
                obtain ⟨pc', ls', st', mem'⟩ := g
                simp only [hst] at h ⊢
                cases hq : (Nat.ble 1 S.2.2.2.2.1 && Nat.ble 26 S.2.2.2.2.2.1) with
                | false => simp only [hq, cond_false] at h; cases h
                | true =>
                  simp only [hq, cond_true] at h ⊢
                  exact ih h
            | false =>
              simp only [hsp, cond_false] at h ⊢
              cases hcal : pm_cal q st with
              | none => simp only [hcal] at h; cases h
              | some g =>
                obtain ⟨y', J, As, rest⟩ := g
                simp only [hcal] at h ⊢
                cases hq : pm_may S J As rest with
                | false => simp only [hq, cond_false] at h; cases h
                | true =>
                  simp only [hq, cond_true] at h ⊢
                  cases hr : pm_run ro n y' 0 (pm_ent J.2.2.1 As) [] mem with
                  | none => simp only [hr] at h; cases h
                  | some g =>
                    obtain ⟨v, mem'⟩ := g
                    simp only [hr] at h
                    simp only [ih hr]
                    exact ih h
theorem pm_run_le {ro : pm_RO} {n k : Nat} (hk : n ≤ k) {y pc : Nat} {ls st : List Value} {mem : pm_M} {r : Option Value × pm_M} (h : pm_run ro n y pc ls st mem = some r) : pm_run ro k y pc ls st mem = some r := by
  induction hk with
  | refl => exact h
  | step _ ih => exact pm_run_mono _ ih
theorem pm_Ex.imp {ro : pm_RO} {y pc : Nat} {ls st : List Value} {mem : pm_M} {Q Q' : Option Value → pm_M → Prop} (h : pm_Ex ro y pc ls st mem Q) (hQ : ∀ v m, Q v m → Q' v m) : pm_Ex ro y pc ls st mem Q' := by
  obtain ⟨n, v, m, h1, h2⟩ := h
  exact ⟨n, v, m, h1, hQ v m h2⟩
/-- one instruction of these rows -/
def pm_one (ro : pm_RO) (rs : List pm_R) (pc : Nat) (ls st : List Value) (mem : pm_M) : pm_O := match pm_row rs pc with
  | some r => (match pm_kind r with
    | 0 => pm_step ro r ls st mem
    | _ => none)
  | none => none
def pm_many (ro : pm_RO) (rs : List pm_R) : Nat → Nat → List Value → List Value → pm_M → pm_O
  | 0, pc, ls, st, mem => some (pc, ls, st, mem)
  | k + 1, pc, ls, st, mem => match pm_one ro rs pc ls st mem with
    | some (pc', ls', st', mem') => pm_many ro rs k pc' ls' st' mem'
    | none => none
section PEX
variable {ro : pm_RO} {y : Nat} {S : pm_S} {rs : List pm_R} {pc pc' : Nat} {ls ls' st st' : List Value} {mem mem' : pm_M} {Q : Option Value → pm_M → Prop}
theorem ex_one (h1 : pm_sig[y]? = some S) (h2 : pm_cod[y]? = some rs) (h : pm_one ro rs pc ls st mem = some (pc', ls', st', mem')) (k : pm_Ex ro y pc' ls' st' mem' Q) : pm_Ex ro y pc ls st mem Q := by
  obtain ⟨n, v, m, a, b⟩ := k
  refine ⟨n + 1, v, m, ?_, b⟩
  rw [pm_run]
  simp only [h1, h2]
  unfold pm_one at h
  cases hr : pm_row rs pc with
  | none => rw [hr] at h; cases h
  | some r =>
    simp only [hr] at h ⊢
    split at h
    next hk => simp only [hk, h]; exact a
    next => cases h
theorem ex_many (h1 : pm_sig[y]? = some S) (h2 : pm_cod[y]? = some rs) (n : Nat) (h : pm_many ro rs n pc ls st mem = some (pc', ls', st', mem')) (k : pm_Ex ro y pc' ls' st' mem' Q) : pm_Ex ro y pc ls st mem Q := by
  induction n generalizing pc ls st mem with
  | zero =>
    simp only [pm_many, Option.some.injEq, Prod.mk.injEq] at h
    obtain ⟨rfl, rfl, rfl, rfl⟩ := h
    exact k
  | succ n ih =>
    simp only [pm_many] at h
    split at h
    next a b c d hone => exact ex_one h1 h2 hone (ih h)
    next => cases h
/-- an instruction with something to show: an index, a divisor -/
theorem ex_grd (h1 : pm_sig[y]? = some S) (h2 : pm_cod[y]? = some rs) {b : Bool} (h : pm_one ro rs pc ls st mem = bif b then some (pc', ls', st', mem') else none) (hb : b = true) (k : pm_Ex ro y pc' ls' st' mem' Q) : pm_Ex ro y pc ls st mem Q := by
  rw [hb, cond_true] at h
  exact ex_one h1 h2 h k
/-- a branch -/
theorem ex_br (h1 : pm_sig[y]? = some S) (h2 : pm_cod[y]? = some rs) {P : Prop} [Decidable P] {a b : Nat} (h : pm_one ro rs pc ls st mem = some (bif decide P then a else b, ls', st', mem')) (ht : P → pm_Ex ro y a ls' st' mem' Q) (hf : ¬ P → pm_Ex ro y b ls' st' mem' Q) : pm_Ex ro y pc ls st mem Q := by
  by_cases hP : P
  · rw [decide_eq_true hP, cond_true] at h
    exact ex_one h1 h2 h (ht hP)
  · rw [decide_eq_false hP, cond_false] at h
    exact ex_one h1 h2 h (hf hP)
theorem ex_ret (h1 : pm_sig[y]? = some S) (h2 : pm_cod[y]? = some rs) {r : pm_R} (hr : pm_row rs pc = some r) (hk : pm_kind r = 1) {v : Option Value} (hv : pm_ret S r st = some v) (k : Q v mem) : pm_Ex ro y pc ls st mem Q := by
  refine ⟨1, v, mem, ?_, k⟩
  rw [pm_run]
  simp only [h1, h2, hr, hk, hv]
  rfl
/-- a boolean's return -/
theorem ex_retz (h1 : pm_sig[y]? = some S) (h2 : pm_cod[y]? = some rs) {r : pm_R} (hr : pm_row rs pc = some r) (hk : pm_kind r = 1) {x : Int32} (hv : pm_ret S r st = bif decide (x = 0) || decide (x = 1) then some (some (.int x)) else none) (hx : x = 0 ∨ x = 1) (k : Q (some (.int x)) mem) : pm_Ex ro y pc ls st mem Q := by
  refine ex_ret h1 h2 hr hk (v := some (.int x)) ?_ k
  rw [hv]
  rcases hx with rfl | rfl <;> rfl
theorem ex_call (h1 : pm_sig[y]? = some S) (h2 : pm_cod[y]? = some rs) {r : pm_R} (hr : pm_row rs pc = some r) (hk : pm_kind r = 2) (hsp : pm_isSp r = false) {y' : Nat} {J : pm_S} {As rest ent : List Value} (hc : pm_cal r st = some (y', J, As, rest)) (hm : pm_may S J As rest = true) (he : pm_ent J.2.2.1 As = ent)
    (k : pm_Ex ro y' 0 ent [] mem (fun v m => pm_Ex ro y (pc + 3) ls (v.toList ++ rest) m Q)) : pm_Ex ro y pc ls st mem Q := by
  obtain ⟨n1, v1, m1, a1, n2, v, m, a2, b⟩ := k
  refine ⟨(n1 + n2) + 1, v, m, ?_, b⟩
  subst he
  rw [pm_run]
  simp only [h1, h2, hr, hk, hsp, cond_false, hc, hm, cond_true, pm_run_le (Nat.le_add_right n1 n2) a1]
  exact pm_run_le (Nat.le_add_left n2 n1) a2
theorem ex_spc (h1 : pm_sig[y]? = some S) (h2 : pm_cod[y]? = some rs) {r : pm_R} (hr : pm_row rs pc = some r) (hk : pm_kind r = 2) (hsp : pm_isSp r = true) (h : pm_spc r.2.2.2.2.1 (pc + 3) ls st mem = some (pc', ls', st', mem')) (hf : (Nat.ble 1 S.2.2.2.2.1 && Nat.ble 26 S.2.2.2.2.2.1) = true) (k : pm_Ex ro y pc' ls' st' mem' Q) : pm_Ex ro y pc ls st mem Q := by
  obtain ⟨n, v, m, a, b⟩ := k
  refine ⟨n + 1, v, m, ?_, b⟩
  rw [pm_run]
  simp only [h1, h2, hr, hk, hsp, cond_true, h, hf]
  exact a
end PEX
