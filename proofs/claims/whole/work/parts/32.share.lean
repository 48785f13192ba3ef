/-! share -/
def WM (P ow : Nat → Nat) (s : Nat) : Nat → Nat
  | 0 => 0
  | g + 1 => WM P ow s g + (if s.testBit (ow g) then P g else 0)
theorem WM_le {P ow : Nat → Nat} {M s : Nat} : ∀ G, (∀ j, j < G → P j ≤ M) → WM P ow s G ≤ G * M := by
  intro G
  induction G with
  | zero => intro _; simp [WM]
  | succ G ih =>
    intro h
    simp only [WM]
    have h1 := ih (fun j hj => h j (by omega))
    have h2 := h G (by omega)
    rw [Nat.succ_mul]
    split <;> omega
def wN (tx : Nat → Nat) (u : Nat) (lw ow : Nat → Nat) (s : Nat) : Nat := PD lw (WM (pzP tx u) ow s (pzG tx u))
theorem wN_lt {tx : Nat → Nat} {u : Nat} {lw ow : Nat → Nat} (hO : OKL lw) (s : Nat) : wN tx u lw ow s < 2 ^ 20 := by
  have h1 := WM_le (P := pzP tx u) (ow := ow) (M := 999) (s := s) (pzG tx u) (fun j hj => (pzP_ok tx u j hj).2)
  have h2 : pzG tx u * 999 ≤ 8 * 999 := Nat.mul_le_mul_right _ (pzG_le tx u)
  unfold wN PD
  rcases Nat.eq_zero_or_pos (WM (pzP tx u) ow s (pzG tx u)) with z | z
  · rw [z, paid_0]; decide
  · have h3 := paid_lt hO.1 (lw 1) z
    have h4 : lw 0 * WM (pzP tx u) ow s (pzG tx u) ≤ 36 * WM (pzP tx u) ow s (pzG tx u) := Nat.mul_le_mul_right _ hO.2.1
    omega
/-- what is brought, over the first sets of others -/
def brS (f : Nat → Nat) (p : Nat) : Nat → Int64
  | 0 => 0
  | o + 1 => if o.testBit p then brS f p o else brS f p o + (c51 (pc8 o)).toInt64 * (nI (f (o ||| 2 ^ p)) - nI (f o)).toInt64
theorem c51_v (n : Nat) : c51 n = 6 ∨ c51 n = 2 := by
  unfold c51
  split
  · exact Or.inl rfl
  · split
    · exact Or.inl rfl
    · exact Or.inr rfl
theorem mul64 {n x y : Nat} (hx : x < 2 ^ 20) (hy : y < 2 ^ 20) : ((c51 n).toInt64 * (nI x - nI y).toInt64).toInt = (c51 n).toInt * ((x : Int) - y) ∧ (c51 n * (nI x - nI y)).toInt64 = (c51 n).toInt64 * (nI x - nI y).toInt64 := by
  have e1 : ((c51 n).toInt64 * (nI x - nI y).toInt64).toInt = (c51 n).toInt * ((x : Int) - y) := by
    rw [Int64.toInt_mul, Int32.toInt_toInt64, Int32.toInt_toInt64, pk_sub_toInt (by omega) (by omega)]
    rcases c51_v n with h | h <;> rw [h]
    · rw [show (6 : Int32).toInt = 6 from rfl]; exact Int.bmod_eq_of_le (by omega) (by omega)
    · rw [show (2 : Int32).toInt = 2 from rfl]; exact Int.bmod_eq_of_le (by omega) (by omega)
  refine ⟨e1, ?_⟩
  apply Int64.toInt_inj.mp
  rw [e1, Int32.toInt_toInt64, Int32.toInt_mul, pk_sub_toInt (by omega) (by omega)]
  rcases c51_v n with h | h <;> rw [h]
  · rw [show (6 : Int32).toInt = 6 from rfl]; exact Int.bmod_eq_of_le (by omega) (by omega)
  · rw [show (2 : Int32).toInt = 2 from rfl]; exact Int.bmod_eq_of_le (by omega) (by omega)
theorem brS_bd {f : Nat → Nat} (hf : ∀ s, f s < 2 ^ 20) (p : Nat) : ∀ o : Nat, o ≤ 16 → -(o * 6291456 : Int) ≤ (brS f p o).toInt ∧ (brS f p o).toInt ≤ (o * 6291456 : Int) := by
  intro o
  induction o with
  | zero => intro _; simp [brS]
  | succ o ih =>
    intro ho
    have h := ih (by omega)
    simp only [brS]
    split
    · omega
    · have h1 := hf (o ||| 2 ^ p)
      have h2 := hf o
      have h3 := (mul64 (n := pc8 o) h1 h2).1
      have h4 : ((c51 (pc8 o)).toInt = 6 ∨ (c51 (pc8 o)).toInt = 2) := by
        rcases c51_v (pc8 o) with z | z <;> rw [z]
        · exact Or.inl rfl
        · exact Or.inr rfl
      rw [Int64.toInt_add, h3]
      rcases h4 with z | z <;> rw [z]
      · rw [Int.bmod_eq_of_le (by omega) (by omega)]; omega
      · rw [Int.bmod_eq_of_le (by omega) (by omega)]; omega
theorem rem64 (v C : Int64) : (v - v / C * C) = v % C := by
  apply Int64.toInt_inj.mp
  have h1 := Int64.le_toInt (v % C)
  have h2 := Int64.toInt_lt (v % C)
  rw [Int64.toInt_mod] at h1 h2
  rw [Int64.toInt_sub, Int64.toInt_mul, Int64.toInt_div, Int64.toInt_mod, Int.bmod_mul_bmod, Int.sub_bmod_bmod]
  have e : v.toInt - v.toInt.tdiv C.toInt * C.toInt = v.toInt.tmod C.toInt := by rw [Int.tmod_def, Int.mul_comm]
  rw [e]
  exact Int.bmod_eq_of_le (by omega) (by omega)
theorem rem0 {v : Int64} {c : Nat} (hc : c < 2 ^ 31) : (v - v / (nI c).toInt64 * (nI c).toInt64) = 0 ↔ c ∣ v.toInt.natAbs := by
  rw [rem64, ← Int64.toInt_inj, Int64.toInt_mod, Int32.toInt_toInt64, nI_toInt hc, show (0 : Int64).toInt = 0 from rfl]
  rw [← Int.ofNat_dvd_left]
  exact (Int.dvd_iff_tmod_eq_zero).symm
section SHA
variable {ro : pm_RO} {Q : Option Value → pm_M → Prop} {tx : Nat → Nat} {u : Nat} {lw ow : Nat → Nat} {sf : Nat → Int32} {sl : Nat → Nat} {si : Nat → Nat → Int32} {lt : Int32}
theorem c_pbs (hO : OK lw ow sf sl) {mem : pm_M} (hI : IC mem tx u lw ow sf sl si lt) {s : Nat} (hs : s < 16) (k : Q (some (.int (nI (wN tx u lw ow s)))) mem) : pm_Ex ro m_X4_paidBySet 0 [.ref 11, .int (nI s), .null, .null] [] mem Q := by
  have hG := pzG_le tx u
  refine bk_X4_paidBySet_0 ?_
  have key : ∀ (c j : Nat), j + c = pzG tx u → pm_Ex ro m_X4_paidBySet 4 [.ref 11, .int (nI s), .int (nI (WM (pzP tx u) ow s j)), .int (nI j)] [] mem Q := by
    intro c
    induction c with
    | zero =>
      intro j hj
      have : j = pzG tx u := by omega
      subst this
      have h1 := WM_le (P := pzP tx u) (ow := ow) (M := 999) (s := s) (pzG tx u) (fun j hj => (pzP_ok tx u j hj).2)
      have h2 : pzG tx u * 999 ≤ 8 * 999 := Nat.mul_le_mul_right _ hG
      refine bk_X4_paidBySet_4 ⟨fun _ => ?_, fun q => absurd (by rw [hI.2.1.1]; exact nI_le (Nat.le_refl _) (by omega)) q⟩
      exact pdC hO.1 hI.2.2.1 (by omega) (bk_X4_paidBySet_53 k)
    | succ c ih =>
      intro j hj
      have ih' := ih (j + 1) (by omega)
      simp only [WM] at ih'
      have ho := hO.2.1 j (by omega)
      refine bk_X4_paidBySet_4 ⟨fun q => ?_, fun _ => ⟨nI_inb (by omega) (by decide), ?_⟩⟩
      · rw [hI.2.1.1, nI_leI (by omega) (by omega)] at q; omega
      rw [nI_clamp (by omega), hI.2.2.2.1 j (by omega), shl1 (by omega), (maskB (g := ow j) (by omega) (by omega)).1, nI_1]
      refine ⟨fun q => ?_, fun q => ⟨nI_inb (by omega) (by decide), ?_⟩⟩
      · rw [q] at ih'
        simp only [Bool.false_eq_true, if_false, Nat.add_zero] at ih'
        exact ih'
      · have q : s.testBit (ow j) = true := by simpa using q
        rw [if_pos q] at ih'
        rw [hI.2.1.2.2.2 j (by omega), nI_add]
        exact ih'
  exact key (pzG tx u) 0 (Nat.zero_add _)
theorem r_worth (hO : OK lw ow sf sl) {mem : pm_M} (hI : IR mem tx u lw ow sf sl si lt) (hR : GR mem tx u) {s : Nat} (hs : s < 16) (k : Q (some (.int (nI (wN tx u lw ow s)))) mem) : pm_Ex ro m_X10_worth 0 [.ref 33, .int (nI s), .null, .null] [] mem Q := by
  have hG := pzG_le tx u
  refine bk_X10_worth_0 ?_
  have key : ∀ (c j : Nat), j + c = pzG tx u → pm_Ex ro m_X10_worth 4 [.ref 33, .int (nI s), .int (nI (WM (pzP tx u) ow s j)), .int (nI j)] [] mem Q := by
    intro c
    induction c with
    | zero =>
      intro j hj
      have : j = pzG tx u := by omega
      subst this
      have h1 := WM_le (P := pzP tx u) (ow := ow) (M := 999) (s := s) (pzG tx u) (fun j hj => (pzP_ok tx u j hj).2)
      have h2 : pzG tx u * 999 ≤ 8 * 999 := Nat.mul_le_mul_right _ hG
      refine bk_X10_worth_4 ⟨fun _ => ?_, fun q => absurd (by rw [hR.1]; exact nI_le (Nat.le_refl _) (by omega)) q⟩
      exact pdR hO.1 hI.2.1 (by omega) (bk_X10_worth_49 k)
    | succ c ih =>
      intro j hj
      have ih' := ih (j + 1) (by omega)
      simp only [WM] at ih'
      have ho := hO.2.1 j (by omega)
      refine bk_X10_worth_4 ⟨fun q => ?_, fun _ => ⟨nI_inb (by omega) (by decide), ?_⟩⟩
      · rw [hR.1, nI_leI (by omega) (by omega)] at q; omega
      rw [nI_clamp (by omega), hI.2.2.1 j (by omega), bitR (g := ow j) (by omega) (by omega), nI_1]
      refine ⟨fun q => ⟨nI_inb (by omega) (by decide), ?_⟩, fun q => ?_⟩
      · have q := Decidable.of_not_not q
        rw [if_pos q] at ih'
        rw [hR.2.2 j (by omega), nI_add]
        exact ih'
      · have q := Decidable.of_not_not q
        rw [if_neg q] at ih'
        rw [show (0 : Int32) = nI 0 from rfl, nI_add]
        exact ih'
  exact key (pzG tx u) 0 (Nat.zero_add _)
theorem orB {o p : Nat} (ho : o < 16) (hp : p < 4) : nI o ||| nI (2 ^ p) = nI (o ||| 2 ^ p) ∧ o ||| 2 ^ p < 16 ∧ (o.testBit p = false → pc8 o < 4) := by
  have key : ∀ p, p < 4 → ∀ o, o < 16 → nI o ||| nI (2 ^ p) = nI (o ||| 2 ^ p) ∧ o ||| 2 ^ p < 16 ∧ (o.testBit p = false → pc8 o < 4) := by decide +kernel
  exact key p hp o ho
theorem c_brought (h51 : ro 51 = some (4, c51)) (hO : OK lw ow sf sl) {mem : pm_M} (hI : IC mem tx u lw ow sf sl si lt) {p : Nat} (hp : p < 4) (k : Q (some (.long (brS (wN tx u lw ow) p 16))) mem) : pm_Ex ro m_X4_broughtInAllOrders 0 [.ref 11, .int (nI p), .null, .null, .null, .null, .null] [] mem Q := by
  refine bk_X4_broughtInAllOrders_0 ?_
  rw [shl1 (by omega)]
  have key : ∀ (c o : Nat), o + c = 16 → ∀ {d6 : Value}, pm_Ex ro m_X4_broughtInAllOrders 9 [.ref 11, .int (nI p), .int (nI (2 ^ p)), .long (brS (wN tx u lw ow) p o), .null, .int (nI o), d6] [] mem Q := by
    intro c
    induction c with
    | zero =>
      intro o ho d6
      have : o = 16 := by omega
      subst this
      exact bk_X4_broughtInAllOrders_9 ⟨fun _ => k, fun q => absurd (by decide) q⟩
    | succ c ih =>
      intro o ho d6
      have ih' := fun d6 => ih (o + 1) (by omega) (d6 := d6)
      simp only [brS] at ih'
      obtain ⟨e1, e2, e3⟩ := orB (o := o) (p := p) (by omega) hp
      refine bk_X4_broughtInAllOrders_9 ⟨fun q => ?_, fun _ => ?_⟩
      · rw [show (16 : Int32) = nI 16 from rfl, nI_leI (by decide) (by omega)] at q; omega
      rw [(maskB (s := o) (g := p) (by omega) (by omega)).1, nI_1]
      refine ⟨fun q => ?_, fun q => ?_⟩
      · have q : o.testBit p = true := by simpa using q
        rw [if_pos q] at ih'
        exact ih' _
      · have q := Decidable.of_not_not q
        rw [if_neg (by rw [q]; decide)] at ih'
        have h4 := e3 q
        refine sp_bc (by omega) (bk_X4_broughtInAllOrders_31 h51 ⟨nI_inb h4 (by decide), ?_⟩)
        rw [e1, nI_clamp (by omega)]
        refine c_pbs hO hI e2 (bk_X4_broughtInAllOrders_45 (c_pbs hO hI (by omega) (bk_X4_broughtInAllOrders_51 ?_)))
        rw [(mul64 (wN_lt hO.1 _) (wN_lt hO.1 _)).2, nI_1]
        exact ih' _
  exact key 16 0 rfl
/-- the greatest that divides both -/
theorem c_common {mem : pm_M} {v : Int64} (k : Q (some (.int (nI (Nat.gcd v.toInt.natAbs 24)))) mem) : pm_Ex ro m_X4_commonWithOrders 0 [.long v, .null, .null] [] mem Q := by
  refine bk_X4_commonWithOrders_0 ?_
  generalize hg : Nat.gcd v.toInt.natAbs 24 = g at k
  have hg0 : 0 < g := by rw [← hg]; exact Nat.gcd_pos_of_pos_right _ (by decide)
  have hgd1 : g ∣ v.toInt.natAbs := by rw [← hg]; exact Nat.gcd_dvd_left _ _
  have hgd2 : g ∣ 24 := by rw [← hg]; exact Nat.gcd_dvd_right _ _
  have key : ∀ (c : Nat), g ≤ c → c ≤ 24 → pm_Ex ro m_X4_commonWithOrders 3 [.long v, .null, .int (nI c)] [] mem Q := by
    intro c
    induction c with
    | zero => intro h; omega
    | succ c ih =>
      intro h1 h2
      refine bk_X4_commonWithOrders_3 ⟨fun q => ?_, fun q => ⟨nI_ne0 (by omega) (by omega), ?_⟩⟩
      · rw [show (1 : Int32) = nI 1 from rfl, nI_leI (by omega) (by decide)] at q
        rw [show c + 1 = g by omega]; exact k
      rw [show (1 : Int32) = nI 1 from rfl, nI_leI (by omega) (by decide)] at q
      rw [show (24 : Int32) = nI 24 from rfl, pk_rem (by decide) (by omega) (by omega), nI_eq0 (Nat.lt_of_le_of_lt (Nat.mod_le _ _) (by decide)), pk_m1]
      have next : (¬ c + 1 = g) → pm_Ex ro m_X4_commonWithOrders 3 [.long v, .null, .int (nI c)] [] mem Q := fun z => ih (by omega) (by omega)
      refine ⟨fun z => next (fun e => z ?_), fun z => ⟨?_, fun y => ?_, fun y => next (fun e => y ?_)⟩⟩
      · rw [e]; exact Nat.mod_eq_zero_of_dvd hgd2
      · intro y
        rw [nI_l (by omega)] at y
        exact absurd ((pk_lEQ (b := 0) (by omega) (by decide)).mp y) (by omega)
      · rw [lg_cmp_eq, rem0 (by omega)] at y
        have z := Nat.dvd_of_mod_eq_zero (Decidable.of_not_not z)
        have : c + 1 ∣ g := by rw [← hg]; exact Nat.dvd_gcd y z
        have := Nat.le_of_dvd hg0 this
        rw [show c + 1 = g by omega]; exact k
      · rw [lg_cmp_eq, rem0 (by omega), e]; exact hgd1
  exact key 24 (Nat.le_of_dvd (by decide) hgd2) (Nat.le_refl _)
def shaS (v : Int64) (what : Nat) : Int64 := if what = 0 then v / lN (Nat.gcd v.toInt.natAbs 24) else lN (24 / Nat.gcd v.toInt.natAbs 24)
theorem r_part {mem : pm_M} {v : Int64} (hb : -100663296 ≤ v.toInt ∧ v.toInt ≤ 100663296) {w : Nat} (hw : w ≤ 1) (k : Q (some (.long (shaS v w))) mem) : pm_Ex ro m_X10_part 0 [.long v, .null, .long 24, .null, .int (nI w), .null, .null, .null, .null, .null, .null] [] mem Q := by
  unfold shaS at k
  have key : ∀ (b a : Nat), a < 2 ^ 63 → b < 2 ^ 63 → Nat.gcd a b = Nat.gcd v.toInt.natAbs 24 → ∀ {d9 : Value}, pm_Ex ro m_X10_part 17 [.long v, .null, .long 24, .null, .int (nI w), .long (lN a), .null, .long (lN b), .null, d9, .null] [] mem Q := by
    intro b
    induction b using Nat.strongRecOn with
    | ind b ih =>
      intro a ha hb hg d9
      have h0 : lN b = 0 ↔ b = 0 := pk_lEQ (b := 0) hb (by decide)
      refine bk_X10_part_17 ?_
      rw [lg_cmp_eq, h0]
      refine ⟨fun q => ?_, fun q => ⟨q, ?_⟩⟩
      · subst q
        rw [Nat.gcd_zero_right] at hg
        have hg0 : 0 < a := by rw [hg]; exact Nat.gcd_pos_of_pos_right _ (by decide)
        have hne : ¬ lN a = 0 := fun z => by have := (pk_lEQ (b := 0) ha (by decide)).mp z; omega
        refine ⟨fun z => ⟨hne, ?_⟩, fun z => ⟨hne, ?_⟩⟩
        · rw [nI_eq0 (by omega)] at z
          rw [if_neg z, ← hg] at k
          rw [show (24 : Int64) = lN 24 from rfl, pk_lDiv (by decide) hg0 ha]
          exact k
        · have z := Decidable.of_not_not z
          rw [nI_eq0 (by omega)] at z
          rw [if_pos z, ← hg] at k
          exact k
      · rw [pk_lRem ha (by omega) hb]
        refine ih (a % b) (Nat.mod_lt _ (by omega)) b hb (Nat.lt_of_lt_of_le (Nat.mod_lt _ (by omega)) (Nat.le_of_lt hb)) ?_
        rw [Nat.gcd_comm b (a % b), ← Nat.gcd_rec, Nat.gcd_comm, hg]
  have hn : v.toInt.natAbs < 2 ^ 63 := by omega
  refine bk_X10_part_0 ?_
  rw [lg_cmp_ge]
  refine ⟨fun q => ?_, fun q => ?_⟩
  · have e : v = lN v.toInt.natAbs := by
      apply Int64.toInt_inj.mp
      rw [pk_lT hn]
      rw [Int64.le_iff_toInt_le, show (0 : Int64).toInt = 0 from rfl] at q
      omega
    have := key 24 v.toInt.natAbs hn (by decide) rfl (d9 := .null)
    rw [← e] at this
    exact this
  · have e : -v = lN v.toInt.natAbs := by
      apply Int64.toInt_inj.mp
      rw [pk_lT hn, Int64.toInt_neg]
      rw [Int64.le_iff_toInt_le, show (0 : Int64).toInt = 0 from rfl] at q
      rw [Int.bmod_eq_of_le (by omega) (by omega)]
      omega
    have := key 24 v.toInt.natAbs hn (by decide) rfl (d9 := .null)
    rw [← e] at this
    exact this
theorem r_shareOf (hO : OK lw ow sf sl) {mem : pm_M} (hI : IR mem tx u lw ow sf sl si lt) (hR : GR mem tx u) {p w : Nat} (hp : p < 4) (hw : w ≤ 1) (k : Q (some (.long (shaS (brS (wN tx u lw ow) p 16) w))) mem) : pm_Ex ro m_X10_shareOf 0 [.ref 33, .int (nI p), .int (nI w), .null, .null, .null, .null, .null] [] mem Q := by
  refine bk_X10_shareOf_0 ?_
  have key : ∀ (c o : Nat), o + c = 16 → ∀ {d6 d7 : Value}, pm_Ex ro m_X10_shareOf 5 [.ref 33, .int (nI p), .int (nI w), .long (brS (wN tx u lw ow) p o), .null, .int (nI o), d6, d7] [] mem Q := by
    intro c
    induction c with
    | zero =>
      intro o ho d6 d7
      have : o = 16 := by omega
      subst this
      have hb := brS_bd (f := wN tx u lw ow) (fun s => wN_lt hO.1 s) p 16 (Nat.le_refl _)
      exact bk_X10_shareOf_5 ⟨fun _ => r_part (by omega) hw (bk_X10_shareOf_86 k), fun q => absurd (by decide) q⟩
    | succ c ih =>
      intro o ho d6 d7
      have ih' := fun d6 d7 => ih (o + 1) (by omega) (d6 := d6) (d7 := d7)
      simp only [brS] at ih'
      obtain ⟨e1, e2, e3⟩ := orB (o := o) (p := p) (by omega) hp
      refine bk_X10_shareOf_5 ⟨fun q => ?_, fun _ => ?_⟩
      · rw [show (16 : Int32) = nI 16 from rfl, nI_leI (by decide) (by omega)] at q; omega
      rw [bitR (g := p) (s := o) (by omega) (by omega), nI_1]
      refine ⟨fun q => ?_, fun q => ?_⟩
      · rw [if_pos (Decidable.of_not_not q)] at ih'
        exact ih' _ _
      · have q := Decidable.of_not_not q
        rw [if_neg q] at ih'
        have h4 := e3 (by simpa using q)
        refine sp_ones (by omega) (bk_X10_shareOf_26 ?_)
        have e4 : (if nI (pc8 o) = 0 then 6 else (if ¬ nI (pc8 o) = 3 then 2 else 6 : Int32) : Int32) = c51 (pc8 o) := by
          have key : ∀ n, n < 4 → (if nI n = 0 then 6 else (if ¬ nI n = 3 then 2 else 6 : Int32) : Int32) = c51 n := by decide
          exact key _ h4
        rw [e4, shl1 (by omega), e1]
        refine r_worth hO hI hR e2 (bk_X10_shareOf_61 (r_worth hO hI hR (by omega) (bk_X10_shareOf_67 ?_)))
        rw [nI_1]
        exact ih' _ _
  exact key 16 0 rfl
def shaA (tx : Nat → Nat) (u : Nat) (lw ow : Nat → Nat) (a b : Int32) : Int64 := if (0 ≤ a ∧ a ≤ 3) ∧ 0 ≤ b ∧ b ≤ 1 then shaS (brS (wN tx u lw ow) a.toNatClampNeg 16) b.toNatClampNeg else -9223372036854775806
theorem c_share (h51 : ro 51 = some (4, c51)) (hO : OK lw ow sf sl) {mem : pm_M} (hI : IC mem tx u lw ow sf sl si lt) {a b : Int32} (k : Q (some (.long (shaA tx u lw ow a b))) mem) : pm_Ex ro m_X9_share 0 [.ref 0, .int a, .int b, .null, .null, .null] [] mem Q := by
  unfold shaA at k
  refine bk_X9_share_0 ⟨fun h1 => ⟨fun h2 => ?_, fun h2 => ?_⟩, fun h1 => ?_⟩
  · have g1 := rng_iff.mp h1
    have g2 := rng_iff.mp h2
    rw [if_pos ⟨g1, g2⟩] at k
    obtain ⟨p, hp, rfl⟩ := rng' (n := 3) (by decide) g1
    obtain ⟨w, hw, rfl⟩ := rng' (n := 1) (by decide) g2
    rw [nI_clamp (by omega), nI_clamp (by omega)] at k
    refine c_brought h51 hO hI (by omega) (bk_X9_share_28 (c_common (bk_X9_share_33 ?_)))
    unfold shaS at k
    generalize brS (wN tx u lw ow) p 16 = v at k ⊢
    have hg0 : 0 < Nat.gcd v.toInt.natAbs 24 := Nat.gcd_pos_of_pos_right _ (by decide)
    have hg24 : Nat.gcd v.toInt.natAbs 24 ≤ 24 := Nat.le_of_dvd (by decide) (Nat.gcd_dvd_right _ _)
    generalize Nat.gcd v.toInt.natAbs 24 = g at k hg0 hg24 ⊢
    refine ⟨fun z => ⟨nI_ne0 hg0 (by omega), ?_⟩, fun z => ⟨?_, ?_⟩⟩
    · rw [nI_eq0 (by omega)] at z
      rw [if_neg z] at k
      rw [show (24 : Int32) = nI 24 from rfl, pk_div (by decide) hg0 (by omega), nI_l (Nat.lt_of_le_of_lt (Nat.div_le_self _ _) (by decide))]
      exact k
    · rw [nI_l (by omega)]
      intro y
      exact absurd ((pk_lEQ (b := 0) (by omega) (by decide)).mp y) (by omega)
    · have z := Decidable.of_not_not z
      rw [nI_eq0 (by omega)] at z
      rw [if_pos z] at k
      rw [nI_l (by omega)]
      exact k
  · rw [if_neg (fun q => h2 (rng_iff.mpr q.2))] at k; exact k
  · rw [if_neg (fun q => h1 (rng_iff.mpr q.1))] at k; exact k
theorem ag_share (h51 : ro 51 = some (4, c51)) (hO : OK lw ow sf sl) (a b : Int32) : AGl ro m_X9_share [.ref 0, .int a, .int b, .null, .null, .null] m_X10_share [.ref 33, .int a, .int b] (tx, u, lw, ow, sf, sl, si, lt) := by
  refine ⟨shaA tx u lw ow a b, (tx, u, lw, ow, sf, sl, si, lt), hO, fun m Q hI k => c_share h51 hO hI (k m (Fr.rf _ _) hI), fun m Q hI k => ?_⟩
  have hI : IR m tx u lw ow sf sl si lt := hI
  unfold shaA at k
  have e : ((-9223372036854775808) - (-2 : Int32).toInt64 : Int64) = -9223372036854775806 := by decide
  refine bk_X10_share_0 (r_reads hI (fun m1 f1 f2 f3 => bk_X10_share_4 ?_))
  rw [e]
  refine ⟨fun g1 => ⟨fun g2 => ?_, fun h2 => ?_⟩, fun h1 => ?_⟩
  · rw [if_pos ⟨g1, g2⟩] at k
    obtain ⟨p, hp, rfl⟩ := rng' (n := 3) (by decide) g1
    obtain ⟨w, hw, rfl⟩ := rng' (n := 1) (by decide) g2
    rw [nI_clamp (by omega), nI_clamp (by omega)] at k
    exact r_shareOf hO f2 f3 (by omega) hw (bk_X10_share_25 (k m1 f1 f2))
  · rw [if_neg (fun q => h2 q.2)] at k; exact k m1 f1 f2
  · rw [if_neg (fun q => h1 q.1)] at k; exact k m1 f1 f2
end SHA
