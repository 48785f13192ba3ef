/-! numbers read from the right -/
/-- the figures of n to the base b, from the right, behind acc -/
def rv (b acc n : Nat) : Nat := if h : 2 ≤ b ∧ 0 < n then rv b (acc * b + n % b) (n / b) else acc
termination_by n
decreasing_by exact Nat.div_lt_self h.2 h.1
/-- b to the number of noughts at the end of n -/
def sh (b n : Nat) : Nat := if h : 2 ≤ b ∧ 0 < n ∧ n % b = 0 then b * sh b (n / b) else 1
termination_by n
decreasing_by exact Nat.div_lt_self h.2.1 h.1
def paidN (b z n : Nat) : Nat := rv b 0 n * (if z = 1 then sh b n else 1)
theorem rv_0 (b acc : Nat) : rv b acc 0 = acc := by rw [rv]; simp
theorem rv_s {b n : Nat} (hb : 2 ≤ b) (hn : 0 < n) (acc : Nat) : rv b acc n = rv b (acc * b + n % b) (n / b) := by
  rw [rv, dif_pos ⟨hb, hn⟩]
theorem sh_1 {b n : Nat} (h : ¬ n % b = 0) : sh b n = 1 := by rw [sh, dif_neg (fun q => h q.2.2)]
theorem sh_s {b n : Nat} (hb : 2 ≤ b) (hn : 0 < n) (h : n % b = 0) : sh b n = b * sh b (n / b) := by rw [sh, dif_pos ⟨hb, hn, h⟩]
theorem rv_ge {b : Nat} (hb : 2 ≤ b) : ∀ (n acc : Nat), acc ≤ rv b acc n := by
  intro n
  induction n using Nat.strongRecOn with
  | ind n ih =>
    intro acc
    rcases Nat.eq_zero_or_pos n with z | z
    · subst z; rw [rv_0]; exact Nat.le_refl _
    · rw [rv_s hb z]
      refine Nat.le_trans ?_ (ih (n / b) (Nat.div_lt_self z hb) _)
      have : acc * 1 ≤ acc * b := Nat.mul_le_mul_left acc (by omega)
      omega
theorem rv_lt {b : Nat} (hb : 2 ≤ b) : ∀ (n acc : Nat), 0 < n → rv b acc n + 1 ≤ (acc + 1) * (b * n) := by
  intro n
  induction n using Nat.strongRecOn with
  | ind n ih =>
    intro acc hn
    rw [rv_s hb hn]
    rcases Nat.eq_zero_or_pos (n / b) with z | z
    · rw [z, rv_0]
      have h1 : n < b := by
        rcases Nat.lt_or_ge n b with q | q
        · exact q
        · have := Nat.div_pos q (by omega); omega
      rw [Nat.mod_eq_of_lt h1]
      have e1 : (acc + 1) * (b * n) = acc * (b * n) + b * n := by rw [Nat.add_mul, Nat.one_mul]
      have e2 : acc * b ≤ acc * (b * n) := Nat.mul_le_mul_left acc (Nat.le_mul_of_pos_right b hn)
      have e3 : 2 * n ≤ b * n := Nat.mul_le_mul_right n hb
      omega
    · have h := ih (n / b) (Nat.div_lt_self hn hb) (acc * b + n % b) z
      refine Nat.le_trans h ?_
      have hm : n % b < b := Nat.mod_lt n (by omega)
      have e1 : acc * b + n % b + 1 ≤ (acc + 1) * b := by rw [Nat.add_mul]; omega
      have e2 : b * (n / b) ≤ n := Nat.mul_div_le n b
      calc (acc * b + n % b + 1) * (b * (n / b)) ≤ ((acc + 1) * b) * n := Nat.mul_le_mul e1 e2
        _ = (acc + 1) * (b * n) := Nat.mul_assoc _ _ _
theorem sh_dvd {b : Nat} (hb : 2 ≤ b) : ∀ n : Nat, 0 < n → ∃ q, n = q * sh b n ∧ 0 < q ∧ rv b 0 n = rv b 0 q := by
  intro n
  induction n using Nat.strongRecOn with
  | ind n ih =>
    intro hn
    by_cases h : n % b = 0
    · have hq : 0 < n / b := Nat.div_pos (Nat.le_of_dvd hn (Nat.dvd_of_mod_eq_zero h)) (by omega)
      obtain ⟨q, h1, h2, h3⟩ := ih (n / b) (Nat.div_lt_self hn hb) hq
      refine ⟨q, ?_, h2, ?_⟩
      · rw [sh_s hb hn h]
        have e1 : n = n / b * b := (Nat.div_mul_cancel (Nat.dvd_of_mod_eq_zero h)).symm
        calc n = n / b * b := e1
          _ = (q * sh b (n / b)) * b := by rw [← h1]
          _ = q * (b * sh b (n / b)) := by rw [Nat.mul_assoc, Nat.mul_comm b]
      · rw [rv_s hb hn, h, Nat.zero_mul, Nat.zero_add]; exact h3
    · exact ⟨n, by rw [sh_1 h, Nat.mul_one], hn, rfl⟩
theorem sh_pos {b : Nat} (hb : 2 ≤ b) : ∀ n : Nat, 0 < sh b n := by
  intro n
  induction n using Nat.strongRecOn with
  | ind n ih =>
    by_cases h : 2 ≤ b ∧ 0 < n ∧ n % b = 0
    · rw [sh_s h.1 h.2.1 h.2.2]
      exact Nat.mul_pos (by omega) (ih (n / b) (Nat.div_lt_self h.2.1 hb))
    · rw [sh, dif_neg h]; decide
theorem paid_0 (b z : Nat) : paidN b z 0 = 0 := by simp [paidN, rv_0]
theorem paid_lt {b n : Nat} (hb : 2 ≤ b) (z : Nat) (hn : 0 < n) : paidN b z n < b * n := by
  obtain ⟨q, h1, h2, h3⟩ := sh_dvd hb n hn
  have h4 := rv_lt hb q 0 h2
  rw [Nat.zero_add, Nat.one_mul] at h4
  have hsp := sh_pos hb n
  unfold paidN
  rw [h3]
  have key : rv b 0 q * sh b n < b * n := by
    calc rv b 0 q * sh b n < (b * q) * sh b n := Nat.mul_lt_mul_of_pos_right (by omega) hsp
      _ = b * n := by rw [Nat.mul_assoc, ← h1]
  split
  · exact key
  · rw [Nat.mul_one]
    exact Nat.lt_of_le_of_lt (Nat.le_mul_of_pos_right _ hsp) key
theorem rv_pos {b : Nat} (hb : 2 ≤ b) : ∀ (n acc : Nat), 0 < acc + n → 0 < rv b acc n := by
  intro n
  induction n using Nat.strongRecOn with
  | ind n ih =>
    intro acc h
    rcases Nat.eq_zero_or_pos n with z | z
    · subst z; rw [rv_0]; omega
    · rw [rv_s hb z]
      refine ih (n / b) (Nat.div_lt_self z hb) _ ?_
      have e := Nat.mod_add_div n b
      rcases Nat.eq_zero_or_pos (n / b) with y | y
      · rw [y, Nat.mul_zero] at e; omega
      · omega
theorem paid_pos {b n : Nat} (hb : 2 ≤ b) (z : Nat) (hn : 0 < n) : 0 < paidN b z n := by
  unfold paidN
  refine Nat.mul_pos (rv_pos hb n 0 (by omega)) ?_
  split
  · exact sh_pos hb n
  · decide
/-- as many figures as before -/
theorem rv_pow {b : Nat} (hb : 2 ≤ b) : ∀ (d n acc : Nat), n < b ^ d → rv b acc n < (acc + 1) * b ^ d := by
  intro d
  induction d with
  | zero => intro n acc h; have : n = 0 := by simpa using h
            subst this; rw [rv_0]; simp
  | succ d ih =>
    intro n acc h
    rcases Nat.eq_zero_or_pos n with z | z
    · subst z; rw [rv_0]
      exact Nat.lt_of_lt_of_le (Nat.lt_succ_self acc) (Nat.le_mul_of_pos_right _ (Nat.pow_pos (by omega)))
    · rw [rv_s hb z]
      have h1 : n / b < b ^ d := by
        rw [Nat.pow_succ] at h
        exact Nat.div_lt_of_lt_mul (by rw [Nat.mul_comm]; exact h)
      refine Nat.lt_of_lt_of_le (ih (n / b) _ h1) ?_
      have hm : n % b < b := Nat.mod_lt n (by omega)
      have e1 : acc * b + n % b + 1 ≤ (acc + 1) * b := by rw [Nat.add_mul]; omega
      calc (acc * b + n % b + 1) * b ^ d ≤ ((acc + 1) * b) * b ^ d := Nat.mul_le_mul_right _ e1
        _ = (acc + 1) * b ^ (d + 1) := by rw [Nat.pow_succ, Nat.mul_assoc, Nat.mul_comm b]
theorem rvsh_pow {b : Nat} (hb : 2 ≤ b) : ∀ (d n : Nat), n < b ^ d → rv b 0 n * sh b n < b ^ d := by
  intro d
  induction d with
  | zero => intro n h; have : n = 0 := by simpa using h
            subst this; rw [rv_0]; simp
  | succ d ih =>
    intro n h
    by_cases h0 : 0 < n ∧ n % b = 0
    · rw [rv_s hb h0.1, sh_s hb h0.1 h0.2, h0.2, Nat.zero_mul, Nat.zero_add]
      have h1 : n / b < b ^ d := by
        rw [Nat.pow_succ] at h
        exact Nat.div_lt_of_lt_mul (by rw [Nat.mul_comm]; exact h)
      have h2 := ih (n / b) h1
      rw [Nat.pow_succ, Nat.mul_comm (b ^ d) b]
      calc rv b 0 (n / b) * (b * sh b (n / b)) = b * (rv b 0 (n / b) * sh b (n / b)) := by rw [← Nat.mul_assoc, Nat.mul_comm (rv b 0 (n / b)) b, Nat.mul_assoc]
        _ < b * b ^ d := Nat.mul_lt_mul_of_pos_left h2 (by omega)
    · have hs : sh b n = 1 := by rw [sh, dif_neg (fun q => h0 q.2)]
      rw [hs, Nat.mul_one]
      have := rv_pow hb (d + 1) n 0 h
      simpa using this
theorem paid_pow {b d n : Nat} (hb : 2 ≤ b) (z : Nat) (h : n < b ^ d) : paidN b z n < b ^ d := by
  have h1 := rvsh_pow hb d n h
  unfold paidN
  split
  · exact h1
  · rw [Nat.mul_one]
    exact Nat.lt_of_le_of_lt (Nat.le_mul_of_pos_right _ (sh_pos hb n)) h1
theorem nI_le0 {r : Nat} (h : r < 2 ^ 31) : nI r ≤ 0 ↔ r = 0 := by
  rw [← nI_0, nI_leI h (by decide)]; omega
theorem nI_eq0 {r : Nat} (h : r < 2 ^ 31) : nI r = 0 ↔ r = 0 := by
  rw [← nI_0, nI_eq h (by decide)]
theorem nI_eq1 {r : Nat} (h : r < 2 ^ 31) : nI r = 1 ↔ r = 1 := nI_eq h (show (1 : Nat) < 2 ^ 31 by decide)
theorem nI_inb {r n : Nat} (h : r < n) (hn : n < 2 ^ 31) : pm_inb (nI r) n = true := by
  have h1 := nI_clamp (n := r) (by omega)
  simp only [pm_inb, h1, Bool.and_eq_true, Bool.not_eq_true', decide_eq_false_iff_not, decide_eq_true_eq]
  exact ⟨nI_pos (by omega), h⟩
/-! PAID, in both -/
section PAID
variable {ro : pm_RO} {Q : Option Value → pm_M → Prop} {mem : pm_M} {b z : Nat}
theorem pr_2 {n : Int32} {e : Nat} (hb2 : 2 ≤ b) (hb : b < 2 ^ 31) : ∀ (r u : Nat), r < 2 ^ 31 → Q (some (.int (nI (rv b u r * e)))) mem → pm_Ex ro m_X10_paidFor 52 [.ref 33, .int n, .int (nI b), .int (nI r), .int (nI e), .int (nI u)] [] mem Q := by
  intro r
  induction r using Nat.strongRecOn with
  | ind r ih =>
    intro u hr k
    refine bk_X10_paidFor_52 ⟨fun h => ?_, fun h => ⟨nI_ne0 (by omega) hb, nI_ne0 (by omega) hb, ?_⟩⟩
    · rw [nI_le0 hr] at h
      subst h
      rw [rv_0] at k
      rw [pk_mul]
      exact k
    · rw [nI_le0 hr] at h
      rw [pk_rem hr (by omega) hb, pk_div hr (by omega) hb, pk_mul, nI_add]
      refine ih (r / b) (Nat.div_lt_self (by omega) hb2) _ (Nat.lt_of_le_of_lt (Nat.div_le_self r b) hr) ?_
      rw [rv_s hb2 (by omega)] at k
      rw [Nat.mul_comm b u]
      exact k
theorem pr_1 {n : Int32} (hb2 : 2 ≤ b) (hb : b < 2 ^ 31) (hz : z ≤ 1) (e1 : mem 41 1 = nI z) : ∀ (r e : Nat), r < 2 ^ 31 → Q (some (.int (nI (rv b 0 r * (e * (if z = 1 then sh b r else 1)))))) mem → pm_Ex ro m_X10_paidFor 12 [.ref 33, .int n, .int (nI b), .int (nI r), .int (nI e), .null] [] mem Q := by
  intro r
  induction r using Nat.strongRecOn with
  | ind r ih =>
    intro e hr k
    refine bk_X10_paidFor_12 ⟨fun h => ?_, fun h => ⟨nI_ne0 (by omega) hb, fun h2 => ?_, fun h2 => ⟨nI_ne0 (by omega) hb, ?_⟩⟩⟩
    · rw [nI_le0 hr] at h
      subst h
      refine pr_2 (u := 0) hb2 hb 0 hr ?_
      rw [rv_0, Nat.zero_mul] at k ⊢
      exact k
    · rw [nI_le0 hr] at h
      rw [pk_rem hr (by omega) hb, nI_eq0 (Nat.lt_of_le_of_lt (Nat.mod_le r b) hr)] at h2
      refine pr_2 (u := 0) hb2 hb r hr ?_
      rw [sh_1 h2] at k
      simpa using k
    · rw [nI_le0 hr] at h
      rw [pk_rem hr (by omega) hb, nI_eq0 (Nat.lt_of_le_of_lt (Nat.mod_le r b) hr)] at h2
      have h2 : r % b = 0 := Decidable.of_not_not h2
      have e2 : nI e * (if ¬ (mem 41 1) = 1 then 1 else nI b : Int32) = nI (e * (if z = 1 then b else 1)) := by
        rw [e1]
        by_cases hz1 : z = 1
        · rw [if_neg (not_not_intro ((nI_eq1 (by omega)).mpr hz1)), if_pos hz1, pk_mul]
        · rw [if_pos (fun q => hz1 ((nI_eq1 (by omega)).mp q)), if_neg hz1, show (1 : Int32) = nI 1 from rfl, pk_mul]
      rw [e2, pk_div hr (by omega) hb]
      refine ih (r / b) (Nat.div_lt_self (by omega) hb2) _ (Nat.lt_of_le_of_lt (Nat.div_le_self r b) hr) ?_
      rw [rv_s hb2 (by omega), h2, sh_s hb2 (by omega) h2, Nat.zero_mul, Nat.zero_add] at k
      by_cases hz1 : z = 1
      · rw [if_pos hz1] at k ⊢
        rw [if_pos hz1, Nat.mul_assoc]; exact k
      · rw [if_neg hz1] at k ⊢
        rw [if_neg hz1, Nat.mul_one]; exact k
/-- the reference's PAID -/
theorem sp_paidR {n : Nat} (hb2 : 2 ≤ b) (hb : b ≤ 36) (hz : z ≤ 1) (e0 : mem 41 0 = nI b) (e1 : mem 41 1 = nI z) (hn : n < 2 ^ 31) (k : Q (some (.int (nI (paidN b z n)))) mem) : pm_Ex ro m_X10_paidFor 0 [.ref 33, .int (nI n), .null, .null, .null, .null] [] mem Q := by
  refine bk_X10_paidFor_0 ?_
  rw [e0]
  refine pr_1 (e := 1) hb2 (by omega) hz e1 n hn ?_
  rw [Nat.one_mul]
  exact k
theorem pc_1 {n : Int32} (hb2 : 2 ≤ b) (hb : b ≤ 36) : ∀ (r i acc s : Nat), i ≤ 31 → r < 2 ^ (31 - i) → rv b acc r < 2 ^ 31 → Q (some (.int (nI (rv b acc r * (s * (if z = 1 ∧ acc = 0 then sh b r else 1)))))) mem →
    pm_Ex ro m_X2_paidFor 35 [.ref 1, .int n, .int (nI b), .int (zb (z = 1)), .int (nI acc), .int (nI s), .int (nI r), .int (nI i)] [] mem Q := by
  intro r
  induction r using Nat.strongRecOn with
  | ind r ih =>
    intro i acc s hi hr hrv k
    have hr31 : r < 2 ^ 31 := Nat.lt_of_lt_of_le hr (Nat.pow_le_pow_right (by decide) (by omega))
    have k0 : r = 0 → Q (some (.int (nI acc * nI s))) mem := by
      intro h
      subst h
      rw [rv_0] at k
      rw [pk_mul]
      have : (if z = 1 ∧ acc = 0 then sh b 0 else 1) = 1 := by
        rw [show sh b 0 = 1 from by rw [sh, dif_neg (by omega)]]; split <;> rfl
      rw [this, Nat.mul_one] at k
      exact k
    refine bk_X2_paidFor_35 ⟨fun h => ?_, fun h => ⟨fun h2 => ?_, fun h2 => ⟨fun h3 => ?_, fun h3 => ⟨nI_ne0 (by omega) (by omega), nI_ne0 (by omega) (by omega), ?_⟩⟩⟩⟩
    · rw [show (31 : Int32) = nI 31 from rfl, nI_leI (by decide) (by omega)] at h
      have : i = 31 := by omega
      subst this
      exact k0 (by simpa using hr)
    · exact k0 ((nI_le0 hr31).mp h2)
    · rw [show (1 : Int32) = nI 1 from rfl, nI_leI (by omega) (by decide)] at h3
      omega
    · rw [nI_le0 hr31] at h2
      rw [show (31 : Int32) = nI 31 from rfl, nI_leI (by decide) (by omega)] at h
      rw [pk_rem (d := b) hr31 (by omega) (by omega), pk_div (d := b) hr31 (by omega) (by omega), pk_mul, nI_add, nI_1]
      have hs := rv_s hb2 (show 0 < r by omega) acc
      have hacc : acc * b + r % b < 2 ^ 31 := Nat.lt_of_le_of_lt (rv_ge hb2 (r / b) _) (by rw [← hs]; exact hrv)
      have e2 : (if zb (z = 1) = 0 then nI s else (if ¬ nI (acc * b + r % b) = 0 then nI s else nI s * nI b : Int32) : Int32) = nI (s * (if z = 1 ∧ acc * b + r % b = 0 then b else 1)) := by
        by_cases hz1 : z = 1
        · rw [zb_pos hz1, if_neg (by decide)]
          by_cases ha : acc * b + r % b = 0
          · rw [if_neg (not_not_intro ((nI_eq0 hacc).mpr ha)), if_pos ⟨hz1, ha⟩, pk_mul]
          · rw [if_pos (fun q => ha ((nI_eq0 hacc).mp q)), if_neg (fun q => ha q.2), Nat.mul_one]
        · rw [zb_neg hz1, if_pos rfl, if_neg (fun q => hz1 q.1), Nat.mul_one]
      rw [e2]
      have hdiv : r / b < 2 ^ (31 - (i + 1)) := by
        have e3 : 2 ^ (31 - i) = 2 ^ (31 - (i + 1)) * 2 := by rw [← Nat.pow_succ]; congr 1; omega
        rw [e3] at hr
        have e4 : r / b ≤ r / 2 := Nat.div_le_div_left hb2 (by decide)
        have e5 : r / 2 < 2 ^ (31 - (i + 1)) := Nat.div_lt_of_lt_mul (by omega)
        omega
      refine ih (r / b) (Nat.div_lt_self (by omega) hb2) (i + 1) _ _ (by omega) hdiv (by rw [← hs]; exact hrv) ?_
      rw [hs] at k
      have e6 : s * (if z = 1 ∧ acc * b + r % b = 0 then b else 1) * (if z = 1 ∧ acc * b + r % b = 0 then sh b (r / b) else 1) = s * (if z = 1 ∧ acc = 0 then sh b r else 1) := by
        by_cases hz1 : z = 1
        · by_cases ha : acc * b + r % b = 0
          · have ha0 : acc = 0 := by
              rcases Nat.eq_zero_or_pos acc with q | q
              · exact q
              · have := Nat.mul_pos q (show 0 < b by omega); omega
            have hm : r % b = 0 := by omega
            rw [if_pos ⟨hz1, ha⟩, if_pos ⟨hz1, ha⟩, if_pos ⟨hz1, ha0⟩, sh_s hb2 (by omega) hm, Nat.mul_assoc]
          · rw [if_neg (fun q => ha q.2), if_neg (fun q => ha q.2), Nat.mul_one, Nat.mul_one]
            by_cases ha0 : acc = 0
            · rw [if_pos ⟨hz1, ha0⟩, sh_1 (by intro q; rw [ha0, q] at ha; simp at ha), Nat.mul_one]
            · rw [if_neg (fun q => ha0 q.2), Nat.mul_one]
        · rw [if_neg (fun q => hz1 q.1), if_neg (fun q => hz1 q.1), if_neg (fun q => hz1 q.1), Nat.mul_one]
      rw [e6]
      exact k
/-- the class's PAID -/
theorem sp_paidC {n : Nat} (hb2 : 2 ≤ b) (hb : b ≤ 36) (hz : z ≤ 1) (e0 : mem 2 0 = nI b) (e1 : mem 2 1 = nI z) (hn : n < 2 ^ 25) (k : Q (some (.int (nI (paidN b z n)))) mem) : pm_Ex ro m_X2_paidFor 0 [.ref 1, .int (nI n), .null, .null, .null, .null, .null, .null] [] mem Q := by
  refine bk_X2_paidFor_0 ?_
  rw [e0]
  have e2 : zb (¬ (¬ (mem 2 1) = 1)) = zb (z = 1) := zb_iff (by rw [e1, show (1 : Int32) = nI 1 from rfl, nI_eq (by omega) (by decide)]; omega)
  rw [e2]
  refine pc_1 (acc := 0) (s := 1) (i := 0) hb2 hb n (by decide) (by omega) ?_ ?_
  · rcases Nat.eq_zero_or_pos n with h | h
    · subst h; rw [rv_0]; decide
    · have := rv_lt hb2 n 0 h
      rw [Nat.zero_add, Nat.one_mul] at this
      have h2 : b * n ≤ 36 * n := Nat.mul_le_mul_right n hb
      omega
  · rw [Nat.one_mul]
    have : (if z = 1 ∧ 0 = 0 then sh b n else 1) = if z = 1 then sh b n else 1 := by simp
    rw [this]
    exact k
end PAID
