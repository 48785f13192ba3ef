/-! BILLS: sums, payments; bill, count -/
theorem whl {g : Nat} (hg : g ≤ 8) : ((1 : Int32) <<< (nI g &&& 31)) - 1 = nI (2 ^ g - 1) := by
  have key : ∀ g, g < 9 → ((1 : Int32) <<< (nI g &&& 31)) - 1 = nI (2 ^ g - 1) := by decide +kernel
  exact key g (by omega)
theorem shl1 {g : Nat} (hg : g ≤ 8) : ((1 : Int32) <<< (nI g &&& 31)) = nI (2 ^ g) := by
  have key : ∀ g, g < 9 → ((1 : Int32) <<< (nI g &&& 31)) = nI (2 ^ g) := by decide +kernel
  exact key g (by omega)
theorem bitR {g s : Nat} (hg : g < 8) (hs : s < 256) : ((nI s >>> (nI g &&& 31)) &&& 1) = 1 ↔ s.testBit g = true := by
  have key : ∀ g, g < 8 → ∀ s, s < 256 → (((nI s >>> (nI g &&& 31)) &&& 1) = 1 ↔ s.testBit g = true) := by decide +kernel
  exact key g hg s hs
theorem p2_le {g : Nat} (hg : g ≤ 8) : 2 ^ g ≤ 256 := Nat.pow_le_pow_right (by decide) hg
theorem p2_pos (g : Nat) : 1 ≤ 2 ^ g := Nat.pow_pos (by decide)
theorem SM_0 (p : Nat → Nat) : ∀ g, SM p g 0 = 0 := by
  intro g
  induction g with
  | zero => rfl
  | succ g ih => simp [SM, ih]
theorem SM_congr {p q : Nat → Nat} {s t : Nat} : ∀ g, (∀ j, j < g → p j = q j) → (∀ j, j < g → s.testBit j = t.testBit j) → SM p g s = SM q g t := by
  intro g
  induction g with
  | zero => intro _ _; rfl
  | succ g ih =>
    intro h1 h2
    simp only [SM]
    rw [ih (fun j hj => h1 j (by omega)) (fun j hj => h2 j (by omega)), h1 g (by omega), h2 g (by omega)]
theorem SM_add (p : Nat → Nat) {g o : Nat} (ho : o < 2 ^ g) : ∀ G, g < G → SM p G (2 ^ g + o) = SM p G o + p g := by
  intro G
  induction G with
  | zero => intro h; omega
  | succ G ih =>
    intro h
    simp only [SM]
    rcases Nat.lt_or_ge g G with z | z
    · have e1 : (2 ^ g + o).testBit G = false := Nat.testBit_lt_two_pow (Nat.lt_of_lt_of_le (show 2 ^ g + o < 2 ^ (g + 1) by rw [Nat.pow_succ]; omega) (Nat.pow_le_pow_right (by decide) z))
      have e2 : o.testBit G = false := Nat.testBit_lt_two_pow (Nat.lt_of_lt_of_le ho (Nat.pow_le_pow_right (by decide) (by omega)))
      rw [ih z, e1, e2]; simp
    · have : g = G := by omega
      subst this
      have e1 : (2 ^ g + o).testBit g = true := by rw [Nat.testBit_two_pow_add_eq, Nat.testBit_lt_two_pow ho]; rfl
      have e2 : o.testBit g = false := Nat.testBit_lt_two_pow ho
      rw [e1, e2, SM_congr (q := p) (t := o) g (fun _ _ => rfl) (fun j hj => Nat.testBit_two_pow_add_gt hj o)]
      simp
theorem SM_le {p : Nat → Nat} {M : Nat} : ∀ G, (∀ j, j < G → p j ≤ M) → ∀ s, SM p G s ≤ G * M := by
  intro G
  induction G with
  | zero => intro _ s; simp [SM]
  | succ G ih =>
    intro h s
    simp only [SM]
    have h1 := ih (fun j hj => h j (by omega)) s
    have h2 := h G (by omega)
    rw [Nat.succ_mul]
    split <;> omega
theorem SMt_le (tx : Nat → Nat) (u s : Nat) : SMt tx u s ≤ 7992 := by
  have h1 := SM_le (p := pzP tx u) (M := 999) (pzG tx u) (fun j hj => (pzP_ok tx u j hj).2) s
  have h2 := pzG_le tx u
  unfold SMt; omega
section BLS
variable {ro : pm_RO} {Q : Option Value → pm_M → Prop} {tx : Nat → Nat} {u : Nat} {lw ow : Nat → Nat} {sf : Nat → Int32} {sl : Nat → Nat} {si : Nat → Nat → Int32} {lt : Int32}
theorem sp_bc {mem : pm_M} {s : Nat} (hs : s < 256) (k : Q (some (.int (nI (pc8 s)))) mem) : pm_Ex ro m_J6_bitCount_0f7a4 0 [.int (nI s)] [] mem Q := by
  refine bk_J6_bitCount_0f7a4_0 ?_
  refine pm_phi1 (f := fun z => Q (some (.int z)) mem) (a := nI (pc8 s)) ?_ k
  clear k
  revert hs
  revert s
  decide +kernel
theorem sp_ones {mem : pm_M} {s : Nat} (hs : s < 256) (k : Q (some (.int (nI (pc8 s)))) mem) : pm_Ex ro m_X10_ones 0 [.int (nI s), .null, .null] [] mem Q := by
  refine bk_X10_ones_0 ?_
  have h1 : ∀ t, t < 256 → t ≠ 0 → (nI t &&& (nI t - 1) = nI (t &&& (t - 1)) ∧ pc8 (t &&& (t - 1)) + 1 = pc8 t ∧ t &&& (t - 1) < 256) := by decide +kernel
  have h0 : pc8 0 = 0 := by decide +kernel
  have h2 : ∀ t, t < 256 → t ≠ 0 → pc8 t ≠ 0 := by decide +kernel
  have key : ∀ (n c t : Nat), t < 256 → pc8 t = n → c + n = pc8 s → pm_Ex ro m_X10_ones 4 [.int (nI s), .int (nI c), .int (nI t)] [] mem Q := by
    intro n
    induction n with
    | zero =>
      intro c t ht hn hc
      have : t = 0 := Decidable.of_not_not (fun q => h2 t ht q hn)
      subst this
      refine bk_X10_ones_4 ⟨fun _ => ?_, fun q => absurd rfl q⟩
      rw [← hc] at k
      exact k
    | succ n ih =>
      intro c t ht hn hc
      have ht0 : t ≠ 0 := fun q => by rw [q, h0] at hn; omega
      obtain ⟨e1, e2, e3⟩ := h1 t ht ht0
      refine bk_X10_ones_4 ⟨fun q => absurd ((nI_eq0 (by omega)).mp q) ht0, fun _ => ?_⟩
      rw [e1, nI_1]
      exact ih (c + 1) _ e3 (by omega) (by omega)
  exact key (pc8 s) 0 s hs rfl (Nat.zero_add _)
/-- the reference's sum, whatever the prices are -/
theorem r_sumG {mem : pm_M} {P : Nat → Nat} {G s : Nat} (hG : G ≤ 8) (h8 : mem 33 8 = nI G) (h39 : ∀ j, j < G → mem 39 j = nI (P j)) (hs : s < 256) (k : Q (some (.int (nI (SM P G s)))) mem) : pm_Ex ro m_X10_sumOf 0 [.ref 33, .int (nI s), .null, .null] [] mem Q := by
  refine bk_X10_sumOf_0 ?_
  have key : ∀ (c j : Nat), j + c = G → pm_Ex ro m_X10_sumOf 4 [.ref 33, .int (nI s), .int (nI (SM P j s)), .int (nI j)] [] mem Q := by
    intro c
    induction c with
    | zero =>
      intro j hj
      have : j = G := by omega
      subst this
      exact bk_X10_sumOf_4 ⟨fun _ => k, fun q => absurd (by rw [h8]; exact nI_le (Nat.le_refl _) (by omega)) q⟩
    | succ c ih =>
      intro j hj
      have ih' := ih (j + 1) (by omega)
      simp only [SM] at ih'
      refine bk_X10_sumOf_4 ⟨fun q => ?_, fun _ => ⟨fun q => ⟨nI_inb (by omega) (by decide), ?_⟩, fun q => ?_⟩⟩
      · rw [h8, nI_leI (by omega) (by omega)] at q; omega
      · have q := (bitR (by omega) hs).mp (Decidable.of_not_not q)
        rw [if_pos q] at ih'
        rw [nI_clamp (by omega), h39 j (by omega), nI_add, nI_1]
        exact ih'
      · have q := fun z => (Decidable.of_not_not q) ((bitR (by omega) hs).mpr z)
        rw [if_neg q] at ih'
        rw [nI_1, show (0 : Int32) = nI 0 from rfl, nI_add]
        exact ih'
  exact key G 0 (Nat.zero_add _)
theorem r_sumOf {mem : pm_M} (hG : GR mem tx u) {s : Nat} (hs : s < 256) (k : Q (some (.int (nI (SMt tx u s)))) mem) : pm_Ex ro m_X10_sumOf 0 [.ref 33, .int (nI s), .null, .null] [] mem Q :=
  r_sumG (P := pzP tx u) (pzG_le tx u) hG.1 hG.2.2 hs k
/-- the till reckons, if it has not -/
theorem sp_bills (hO : OKL lw) {mem : pm_M} (hI : IC mem tx u lw ow sf sl si lt) (k : ∀ mem' : pm_M, Fr [6, 7, 8] mem mem' → IC mem' tx u lw ow sf sl si lt → BI mem' tx u lw → mem' 6 6 = 1 → mem' 6 7 = mem 6 7 → Q none mem') : pm_Ex ro m_X7_reckonBills 0 [.ref 6, .null, .null, .null] [] mem Q := by
  obtain ⟨h1, h2, h3, h4, h5, h6, h7, h8⟩ := id hI
  have hG := pzG_le tx u
  refine bk_X7_reckonBills_0 ⟨fun h0 => ?_, fun h0 => ?_⟩
  · have hp : ∀ j, j < pzG tx u → 2 ^ j + 2 ^ j ≤ 256 := fun j hj => by
      have : 2 ^ (j + 1) ≤ 2 ^ 8 := Nat.pow_le_pow_right (by decide) (by omega)
      rw [Nat.pow_succ] at this; omega
    have out : ∀ (c g : Nat) (m : pm_M), g + c = pzG tx u → Fr [7, 8] mem m → m 7 0 = 0 → (∀ s, 0 < s → s < 2 ^ g → m 7 s = nI (SMt tx u s) ∧ m 8 s = nI (PD lw (SMt tx u s))) → ∀ {d2 d3 : Value}, pm_Ex ro m_X7_reckonBills 10 [.ref 6, .int (nI g), d2, d3] [] m Q := by
      intro c
      induction c with
      | zero =>
        intro g m hg hF h70 hB d2 d3
        have : g = pzG tx u := by omega
        subst this
        refine bk_X7_reckonBills_10 ⟨fun _ => ?_, fun q => absurd (by rw [hF 3 (by decide), h2.1]; exact nI_le (Nat.le_refl _) (by omega)) q⟩
        have hF' : Fr [6, 7, 8] mem (pm_up m 6 6 1) := (hF.sub (by decide)).up (by decide) _ _
        have hBI : BI (pm_up m 6 6 1) tx u lw := fun s a b => by rw [up_n (by decide), up_n (by decide)]; exact hB s a b
        refine k _ hF' ⟨h1.fr (by rw [hF' 3 (by decide)]) (hF' 4 (by decide)), h2.fr (hF' 3 (by decide)) (hF' 5 (by decide)), h3.fr (hF' 2 (by decide)), h4.fr (hF' 12 (by decide)), h5.fr (fun t t1 t2 => hF' t (by simp only [List.mem_cons, List.not_mem_nil, or_false]; omega)), by rw [hF' 0 (by decide)]; exact h6, ⟨by rw [up_n (by decide)]; exact h70, Or.inr ⟨up_tk _ _ _ _, hBI⟩, ?_⟩, h8.fr (hF' 15 (by decide)) (hF' 16 (by decide))⟩ hBI (up_tk _ _ _ _) (by rw [up_tj (by decide), hF 6 (by decide)])
        rw [up_tj (by decide), hF 6 (by decide)]
        rcases h7.2.2 with z | ⟨z, z'⟩
        · exact Or.inl z
        · exact Or.inr ⟨z, fun j hj => by rw [up_tj (by omega), hF 6 (by decide)]; exact z' j hj⟩
      | succ c ih =>
        intro g m hg hF h70 hB d2 d3
        refine bk_X7_reckonBills_10 ⟨fun q => ?_, fun _ => ?_⟩
        · rw [hF 3 (by decide), h2.1, nI_leI (by omega) (by omega)] at q; omega
        rw [shl1 (by omega)]
        have hpg := hp g (by omega)
        have inn : ∀ (e o : Nat) (m : pm_M), o + e = 2 ^ g → Fr [7, 8] mem m → m 7 0 = 0 → (∀ s, 0 < s → s < 2 ^ g + o → m 7 s = nI (SMt tx u s) ∧ m 8 s = nI (PD lw (SMt tx u s))) → pm_Ex ro m_X7_reckonBills 27 [.ref 6, .int (nI g), .int (nI (2 ^ g)), .int (nI o)] [] m Q := by
          intro e
          induction e with
          | zero =>
            intro o m ho hF h70 hB
            have : o = 2 ^ g := by omega
            subst this
            refine bk_X7_reckonBills_27 ⟨fun _ => ?_, fun q => absurd (nI_le (Nat.le_refl _) (by omega)) q⟩
            rw [nI_1]
            refine ih (g + 1) m (by omega) hF h70 (fun s a b => hB s a ?_)
            rw [Nat.pow_succ] at b; omega
          | succ e ihe =>
            intro o m ho hF h70 hB
            refine bk_X7_reckonBills_27 ⟨fun q => ?_, fun _ => ?_⟩
            · rw [nI_leI (by omega) (by omega)] at q; omega
            have e7 : m 7 o = nI (SMt tx u o) := by
              rcases Nat.eq_zero_or_pos o with z | z
              · subst z; unfold SMt; rw [SM_0, h70]; rfl
              · exact (hB o z (by omega)).1
            have e5 : m 5 g = nI (pzP tx u g) := by rw [hF 5 (by decide)]; exact h2.2.2.2 g (by omega)
            have eS : SMt tx u (2 ^ g + o) = SMt tx u o + pzP tx u g := SM_add (pzP tx u) (by omega) _ (by omega)
            have hle := SMt_le tx u (2 ^ g + o)
            rw [nI_clamp (by omega), nI_clamp (by omega), nI_add (2 ^ g) o, nI_clamp (by omega), e7, e5, nI_add, up_tk, ← eS]
            refine ⟨nI_inb (by omega) (by decide), nI_inb (by omega) (by decide), nI_inb (by omega) (by decide), nI_inb (by omega) (by decide), ?_⟩
            refine pdC hO (h3.fr (by rw [up_n (by decide), hF 2 (by decide)])) (by omega) ?_
            refine bk_X7_reckonBills_77 ⟨nI_inb (by omega) (by decide), ?_⟩
            rw [nI_clamp (by omega), nI_1]
            refine ihe (o + 1) _ (by omega) ((hF.up (by decide) _ _).up (by decide) _ _) ?_ (fun s a b => ?_)
            · rw [up_n (by decide), up_tj (by have := p2_pos g; omega)]; exact h70
            · by_cases hs : s = 2 ^ g + o
              · subst hs
                rw [up_n (by decide), up_tk, up_tk]
                exact ⟨rfl, rfl⟩
              · rw [up_n (by decide), up_tj hs, up_tj hs, up_n (by decide)]
                exact hB s a (by omega)
        exact inn (2 ^ g) 0 m (Nat.zero_add _) hF h70 (fun s a b => hB s a (by omega))
    exact out (pzG tx u) 0 mem (Nat.zero_add _) (Fr.rf _ _) h7.1 (fun s a b => by simp at b; omega)
  · rcases h7.2.1 with z | ⟨z, z'⟩
    · exact absurd z h0
    · exact k mem (Fr.rf _ _) hI z' z rfl
theorem BI.sum {mem : pm_M} (hI : IC mem tx u lw ow sf sl si lt) (hB : BI mem tx u lw) {s : Nat} (hs : s < 2 ^ pzG tx u) : mem 7 s = nI (SMt tx u s) := by
  rcases Nat.eq_zero_or_pos s with z | z
  · subst z; unfold SMt; rw [SM_0]; exact hI.2.2.2.2.2.2.1.1
  · exact (hB s z hs).1
theorem c_sumOf (hO : OKL lw) {mem : pm_M} (hI : IC mem tx u lw ow sf sl si lt) {s : Nat} (hs : s < 2 ^ pzG tx u) (k : ∀ mem' : pm_M, Fr [6, 7, 8] mem mem' → IC mem' tx u lw ow sf sl si lt → BI mem' tx u lw → mem' 6 6 = 1 → Q (some (.int (nI (SMt tx u s)))) mem') : pm_Ex ro m_X7_sumOf 0 [.ref 6, .int (nI s)] [] mem Q := by
  have hG := p2_le (pzG_le tx u)
  refine bk_X7_sumOf_0 (sp_bills hO hI (fun m f1 f2 f3 f4 _ => ?_))
  refine bk_X7_sumOf_4 ⟨nI_inb (by omega) (by decide), ?_⟩
  rw [nI_clamp (by omega), f3.sum f2 hs]
  exact k m f1 f2 f3 f4
theorem c_paidOf (hO : OKL lw) {mem : pm_M} (hI : IC mem tx u lw ow sf sl si lt) {s : Nat} (h0 : 0 < s) (hs : s < 2 ^ pzG tx u) (k : ∀ mem' : pm_M, Fr [6, 7, 8] mem mem' → IC mem' tx u lw ow sf sl si lt → BI mem' tx u lw → mem' 6 6 = 1 → Q (some (.int (nI (PD lw (SMt tx u s))))) mem') : pm_Ex ro m_X7_paidOf 0 [.ref 6, .int (nI s)] [] mem Q := by
  have hG := p2_le (pzG_le tx u)
  refine bk_X7_paidOf_0 (sp_bills hO hI (fun m f1 f2 f3 f4 _ => ?_))
  refine bk_X7_paidOf_4 ⟨nI_inb (by omega) (by decide), ?_⟩
  rw [nI_clamp (by omega), (f3 s h0 hs).2]
  exact k m f1 f2 f3 f4
def bilA (tx : Nat → Nat) (u : Nat) (lw : Nat → Nat) (a b : Int32) : Int32 := if (1 ≤ a ∧ a ≤ nI (2 ^ pzG tx u - 1)) ∧ 0 ≤ b ∧ b ≤ 1 then (if b = 0 then nI (SMt tx u a.toNatClampNeg) else nI (PD lw (SMt tx u a.toNatClampNeg))) else -2
theorem ag_bill (hO : OK lw ow sf sl) (a b : Int32) : AGi ro m_X9_bill [.ref 0, .int a, .int b] m_X10_bill [.ref 33, .int a, .int b] (tx, u, lw, ow, sf, sl, si, lt) := by
  have hG := pzG_le tx u
  have hG2 := p2_le hG
  refine ⟨bilA tx u lw a b, (tx, u, lw, ow, sf, sl, si, lt), hO, fun m Q hI k => ?_, fun m Q hI k => ?_⟩
  · have hI : IC m tx u lw ow sf sl si lt := hI
    unfold bilA at k
    refine bk_X9_bill_0 ?_
    rw [hI.2.1.1, whl hG]
    refine ⟨fun h => ?_, fun h => ?_⟩
    · have h' := rng_iff.mp h
      obtain ⟨s, hs1, hs, rfl⟩ := rng1 (by omega) h'
      rw [nI_clamp (by omega)] at k
      by_cases b0 : b = 0
      · subst b0
        rw [if_pos ⟨h', by decide, by decide⟩, if_pos rfl] at k
        exact bk_X9_bill_19_c0 (c_sumOf hO.1 hI (by omega) (fun m' f1 f2 _ _ => bk_X9_bill_52 (k m' (f1.CT (by decide)) f2)))
      by_cases b1 : b = 1
      · subst b1
        rw [if_pos ⟨h', by decide, by decide⟩, if_neg (by decide)] at k
        exact bk_X9_bill_19_c1 (c_paidOf hO.1 hI (by omega) (by omega) (fun m' f1 f2 _ _ => bk_X9_bill_61 (k m' (f1.CT (by decide)) f2)))
      · refine bk_X9_bill_19_d b0 b1 ?_
        rw [if_neg ?_] at k
        · exact k m (Fr.rf _ _) hI
        · rintro ⟨-, q⟩
          obtain ⟨i, hi, rfl⟩ := rng' (n := 1) (by decide) q
          rcases (show i = 0 ∨ i = 1 by omega) with rfl | rfl
          · exact b0 rfl
          · exact b1 rfl
    · rw [if_neg (fun q => h (rng_iff.mpr q.1))] at k
      exact k m (Fr.rf _ _) hI
  · have hI : IR m tx u lw ow sf sl si lt := hI
    unfold bilA at k
    refine bk_X10_bill_0 (r_reads hI (fun m1 f1 f2 f3 => bk_X10_bill_4 ?_))
    rw [f3.1, whl hG]
    refine ⟨fun h => ⟨fun g => ⟨fun z => ?_, fun z => ?_⟩, fun g => ?_⟩, fun h => ?_⟩
    · rw [if_pos ⟨h, g⟩, if_neg z] at k
      obtain ⟨s, hs1, hs, rfl⟩ := rng1 (by omega) h
      rw [nI_clamp (by omega)] at k
      refine r_sumOf f3 (by omega) (bk_X10_bill_47 ?_)
      have := SMt_le tx u s
      exact pdR hO.1 f2.2.1 (by omega) (bk_X10_bill_50 (k m1 f1 f2))
    · rw [if_pos ⟨h, g⟩, if_pos (Decidable.of_not_not z)] at k
      obtain ⟨s, hs1, hs, rfl⟩ := rng1 (by omega) h
      rw [nI_clamp (by omega)] at k
      exact r_sumOf f3 (by omega) (bk_X10_bill_38 (k m1 f1 f2))
    · rw [if_neg (fun q => g q.2)] at k; exact k m1 f1 f2
    · rw [if_neg (fun q => h q.1)] at k; exact k m1 f1 f2
/-- count -/
def cntA (tx : Nat → Nat) (u : Nat) (lw : Nat → Nat) (lt : Int32) (a : Int32) : Int32 := if a = 0 then nI (pzG tx u) else if a = 1 then nI u else if a = 2 then nI (pc8 (pzW tx u)) else if a = 3 then nI (SMt tx u (2 ^ pzG tx u - 1)) else if a = 4 then nI (lw 0) else if a = 5 then nI (lw 1) else if a = 6 then nI (lw 2) else if a = 7 then nI (lw 3) else if a = 8 then lt else -2
theorem c_count (hO : OKL lw) {mem : pm_M} (hI : IC mem tx u lw ow sf sl si lt) {a : Int32} (k : ∀ mem' : pm_M, Fr CT mem mem' → IC mem' tx u lw ow sf sl si lt → Q (some (.int (cntA tx u lw lt a))) mem') : pm_Ex ro m_X9_count 0 [.ref 0, .int a] [] mem Q := by
  have hG := pzG_le tx u
  have kk := k mem (Fr.rf _ _) hI
  refine bk_X9_count_0 ?_
  by_cases h0 : a = 0
  · subst h0; refine bk_X9_count_1_c0 ?_; rw [hI.2.1.1]; exact kk
  by_cases h1 : a = 1
  · subst h1; refine bk_X9_count_1_c1 ?_; rw [hI.1.2.1]; exact kk
  by_cases h2 : a = 2
  · subst h2; refine bk_X9_count_1_c2 ?_; rw [hI.2.1.2.1]; exact sp_bc (pzW_256 tx u) (bk_X9_count_78 kk)
  by_cases h3 : a = 3
  · subst h3; refine bk_X9_count_1_c3 ?_; rw [hI.2.1.1, whl hG]
    have := p2_pos (pzG tx u)
    exact c_sumOf hO hI (by omega) (fun m' f1 f2 _ _ => bk_X9_count_93 (k m' (f1.CT (by decide)) f2))
  by_cases h4 : a = 4
  · subst h4; refine bk_X9_count_1_c4 ⟨by decide, ?_⟩; rw [show ((4 : Int32) - 4).toNatClampNeg = 0 from by decide, hI.2.2.1 0 (by decide)]; exact kk
  by_cases h5 : a = 5
  · subst h5; refine bk_X9_count_1_c5 ⟨by decide, ?_⟩; rw [show ((5 : Int32) - 4).toNatClampNeg = 1 from by decide, hI.2.2.1 1 (by decide)]; exact kk
  by_cases h6 : a = 6
  · subst h6; refine bk_X9_count_1_c6 ⟨by decide, ?_⟩; rw [show ((6 : Int32) - 4).toNatClampNeg = 2 from by decide, hI.2.2.1 2 (by decide)]; exact kk
  by_cases h7 : a = 7
  · subst h7; refine bk_X9_count_1_c7 ⟨by decide, ?_⟩; rw [show ((7 : Int32) - 4).toNatClampNeg = 3 from by decide, hI.2.2.1 3 (by decide)]; exact kk
  by_cases h8 : a = 8
  · subst h8; refine bk_X9_count_1_c8 ?_; rw [hI.2.2.2.2.2.1]; exact kk
  · refine bk_X9_count_1_d h0 h1 h2 h3 h4 h5 h6 h7 h8 ?_
    unfold cntA at kk
    rw [if_neg h0, if_neg h1, if_neg h2, if_neg h3, if_neg h4, if_neg h5, if_neg h6, if_neg h7, if_neg h8] at kk
    exact kk
/-- the reference's count, behind its reads -/
theorem r_count6 {mem : pm_M} (hI : IR mem tx u lw ow sf sl si lt) (hR : GR mem tx u) {a : Int32} (k : Q (some (.int (cntA tx u lw lt a))) mem) : pm_Ex ro m_X10_count 6 [.ref 33, .int a] [.int a] mem Q := by
  have hG := pzG_le tx u
  by_cases h0 : a = 0
  · subst h0; refine bk_X10_count_6_c0 ?_; rw [hR.1]; exact k
  by_cases h1 : a = 1
  · subst h1; refine bk_X10_count_6_c1 ?_; rw [hI.1.2.1]; exact k
  by_cases h2 : a = 2
  · subst h2; refine bk_X10_count_6_c2 ?_; rw [hR.2.1]; exact sp_ones (pzW_256 tx u) (bk_X10_count_73 k)
  by_cases h3 : a = 3
  · subst h3; refine bk_X10_count_6_c3 ?_; rw [hR.1, whl hG]
    have := p2_le hG
    have := p2_pos (pzG tx u)
    exact r_sumOf hR (by omega) (bk_X10_count_82 k)
  by_cases h4 : a = 4
  · subst h4; refine bk_X10_count_6_c4 ⟨by decide, ?_⟩; rw [show ((4 : Int32) - 4).toNatClampNeg = 0 from by decide, hI.2.1 0 (by decide)]; exact k
  by_cases h5 : a = 5
  · subst h5; refine bk_X10_count_6_c5 ⟨by decide, ?_⟩; rw [show ((5 : Int32) - 4).toNatClampNeg = 1 from by decide, hI.2.1 1 (by decide)]; exact k
  by_cases h6 : a = 6
  · subst h6; refine bk_X10_count_6_c6 ⟨by decide, ?_⟩; rw [show ((6 : Int32) - 4).toNatClampNeg = 2 from by decide, hI.2.1 2 (by decide)]; exact k
  by_cases h7 : a = 7
  · subst h7; refine bk_X10_count_6_c7 ⟨by decide, ?_⟩; rw [show ((7 : Int32) - 4).toNatClampNeg = 3 from by decide, hI.2.1 3 (by decide)]; exact k
  by_cases h8 : a = 8
  · subst h8; refine bk_X10_count_6_c8 ?_; rw [hI.2.2.2.2]; exact k
  · refine bk_X10_count_6_d h0 h1 h2 h3 h4 h5 h6 h7 h8 ?_
    unfold cntA at k
    rw [if_neg h0, if_neg h1, if_neg h2, if_neg h3, if_neg h4, if_neg h5, if_neg h6, if_neg h7, if_neg h8] at k
    exact k
theorem ag_count (hO : OK lw ow sf sl) (a : Int32) : AGi ro m_X9_count [.ref 0, .int a] m_X10_count [.ref 33, .int a] (tx, u, lw, ow, sf, sl, si, lt) :=
  ⟨cntA tx u lw lt a, (tx, u, lw, ow, sf, sl, si, lt), hO, fun _ _ hI k => c_count hO.1 hI k, fun _ _ hI k => bk_X10_count_0 (r_reads hI (fun m1 f1 f2 f3 => bk_X10_count_4 (r_count6 f2 f3 (k m1 f1 f2))))⟩
end BLS
