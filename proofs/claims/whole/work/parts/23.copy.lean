/-! copy, read -/
theorem i32_bd (i : Int32) : -2147483648 ≤ i.toInt ∧ i.toInt < 2147483648 := ⟨Int32.le_toInt i, Int32.toInt_lt i⟩
theorem i64_add (i n : Int32) : (i.toInt64 + n.toInt64).toInt = i.toInt + n.toInt := by
  have h1 := i32_bd i
  have h2 := i32_bd n
  rw [Int64.toInt_add, Int32.toInt_toInt64, Int32.toInt_toInt64]
  exact Int.bmod_eq_of_le (by omega) (by omega)
/-- are there so many items from there on? -/
abbrev runOk (len : Nat) (i n : Int32) : Prop := 0 ≤ i.toInt ∧ 0 ≤ n.toInt ∧ i.toInt + n.toInt ≤ (len : Int)
theorem runOk_N {len : Nat} (hl : len ≤ 60) {i n : Int32} (h : runOk len i n) : ∃ a b : Nat, i = nI a ∧ n = nI b ∧ a + b ≤ len := by
  obtain ⟨h1, h2, h3⟩ := h
  obtain ⟨a, ha, rfl⟩ := nI_of (x := i) (by rw [Int32.lt_iff_toInt_lt]; exact Int.not_lt.mpr h1)
  obtain ⟨b, hb, rfl⟩ := nI_of (x := n) (by rw [Int32.lt_iff_toInt_lt]; exact Int.not_lt.mpr h2)
  rw [nI_toInt ha, nI_toInt hb] at h3
  exact ⟨a, b, rfl, rfl, by omega⟩
section CPY
variable {ro : pm_RO} {tx : Nat → Nat} {u : Nat} {lw ow : Nat → Nat} {sf : Nat → Int32} {sl : Nat → Nat} {si : Nat → Nat → Int32} {lt : Int32}
theorem c_hasRun {Q : Option Value → pm_M → Prop} {mem : pm_M} (hO : OKS sf sl) (hS : SC mem sf sl si) {s : Nat} (hs : s < 4) {i n : Int32} (k : Q (some (.int (zb (runOk (sl s) i n)))) mem) : pm_Ex ro m_X6_hasRun 0 [.ref (24 + 2 * s), .int i, .int n] [] mem Q := by
  have h60 := (hO s hs).2.1
  refine bk_X6_hasRun_0 (shN hs) ?_
  rw [(hS s hs).2.1]
  simp only [Int32.lt_iff_toInt_lt, nI_toInt (show sl s < 2 ^ 31 by omega), show (0 : Int32).toInt = 0 from rfl]
  refine ⟨fun q => ?_, fun q => ⟨fun q2 => ?_, fun q2 => ⟨fun q3 => ?_, fun q3 => ?_⟩⟩⟩
  · rw [zb_neg (fun z => by omega)] at k; exact k
  · rw [zb_neg (fun z => by omega)] at k; exact k
  · rw [zb_neg (fun z => by omega)] at k; exact k
  · obtain ⟨a, ha, rfl⟩ := nI_of (x := i) (by rw [Int32.lt_iff_toInt_lt]; exact q)
    rw [nI_toInt ha] at q3
    have e : (nI (sl s) - nI a).toInt = (sl s : Int) - a := by rw [pk_sub (by omega), nI_toInt (by omega)]; omega
    rw [e]
    have : zb (¬ ((sl s : Int) - a < n.toInt)) = zb (runOk (sl s) (nI a) n) := zb_iff (by simp only [runOk, nI_toInt ha]; omega)
    rw [this]
    exact k
theorem c_takeRun {Q : Option Value → pm_M → Prop} {mem : pm_M} {s t i j n : Nat} (hs : s < 4) (ht : t < 4) (h1 : i + n ≤ 60) (h2 : j + n ≤ 60) (k : Q none (pm_upR mem (24 + 2 * t + 1) (va_cpy (mem (24 + 2 * s + 1)) (mem (24 + 2 * t + 1)) i j n))) : pm_Ex ro m_X6_takeRun 0 [.ref (24 + 2 * t), .ref (24 + 2 * s), .int (nI i), .int (nI j), .int (nI n)] [] mem Q := by
  refine bk_X6_takeRun_0 (shN ht) (shN hs) ?_
  rw [nI_clamp (by omega), nI_clamp (by omega), nI_clamp (by omega)]
  refine ⟨?_, k⟩
  unfold pm_cpOk
  rw [nI_clamp (by omega), nI_clamp (by omega), nI_clamp (by omega)]
  simp only [Bool.and_eq_true, Bool.not_eq_true', decide_eq_false_iff_not, decide_eq_true_eq]
  exact ⟨⟨⟨⟨nI_pos (by omega), nI_pos (by omega)⟩, nI_pos (by omega)⟩, h1⟩, h2⟩
theorem r_copy_157 {Q : Option Value → pm_M → Prop} {s t i j n : Nat} (ht : t < 4) (h2 : j + n ≤ 60) {m0 : pm_M} {g : Nat → Int32} (k : ∀ mem' : pm_M, Fr [36] m0 mem' → (∀ q, mem' 36 q = if 60 * t + j ≤ q ∧ q < 60 * t + j + n then g (q - (60 * t + j)) else m0 36 q) → Q (some (.int 1)) mem') : ∀ (c a : Nat) (mem : pm_M), a + c = n → Fr [36] m0 mem → (∀ q, q < n → mem 37 q = g q) → (∀ q, mem 36 q = if 60 * t + j ≤ q ∧ q < 60 * t + j + a then g (q - (60 * t + j)) else m0 36 q) → pm_Ex ro m_X10_copy 157 [.ref 33, .int (nI s), .int (nI i), .int (nI t), .int (nI j), .int (nI n), .int (nI a)] [] mem Q := by
  intro c
  induction c with
  | zero =>
    intro a mem ha h1 h37 h36
    have : a = n := by omega
    subst this
    exact bk_X10_copy_157 ⟨fun _ => k mem h1 h36, fun q => absurd (nI_le (Nat.le_refl _) (by omega)) q⟩
  | succ c ih =>
    intro a mem ha h1 h37 h36
    refine bk_X10_copy_157 ⟨fun q => ?_, fun _ => ?_⟩
    · rw [nI_leI (by omega) (by omega)] at q; omega
    rw [show (60 : Int32) = nI 60 from rfl, pk_mul, nI_add, nI_add, nI_clamp (by omega), nI_clamp (by omega), nI_1, h37 a (by omega)]
    refine ⟨nI_inb (by omega) (by decide), nI_inb (by omega) (by decide), ih (a + 1) _ (by omega) (h1.up (by decide) _ _) (fun q hq => by rw [up_n (by decide)]; exact h37 q hq) (fun q => ?_)⟩
    rw [up_t]
    simp only [upd]
    by_cases hq : q = 60 * t + j + a
    · rw [if_pos hq, if_pos (by omega)]
      congr 1; omega
    · rw [if_neg hq, h36 q]
      by_cases hz : 60 * t + j ≤ q ∧ q < 60 * t + j + a
      · rw [if_pos hz, if_pos (by omega)]
      · rw [if_neg hz, if_neg (by omega)]
theorem r_copy_120 {Q : Option Value → pm_M → Prop} {s t i j n : Nat} (hs : s < 4) (ht : t < 4) (h1 : i + n ≤ 60) (h2 : j + n ≤ 60) {m0 : pm_M} (k : ∀ mem' : pm_M, Fr [36, 37] m0 mem' → (∀ q, mem' 36 q = if 60 * t + j ≤ q ∧ q < 60 * t + j + n then m0 36 (60 * s + i + (q - (60 * t + j))) else m0 36 q) → Q (some (.int 1)) mem') : ∀ (c a : Nat) (mem : pm_M), a + c = n → Fr [37] m0 mem → (∀ q, q < a → mem 37 q = m0 36 (60 * s + i + q)) → pm_Ex ro m_X10_copy 120 [.ref 33, .int (nI s), .int (nI i), .int (nI t), .int (nI j), .int (nI n), .int (nI a)] [] mem Q := by
  intro c
  induction c with
  | zero =>
    intro a mem ha hF h37
    have : a = n := by omega
    subst this
    refine bk_X10_copy_120 ⟨fun _ => ?_, fun q => absurd (nI_le (Nat.le_refl _) (by omega)) q⟩
    refine r_copy_157 ht h2 (m0 := mem) (g := fun q => m0 36 (60 * s + i + q)) (fun mem' f1 f2 => ?_) a 0 mem (by omega) (Fr.rf _ _) h37 (fun q => by rw [if_neg (by omega)])
    refine k mem' ((hF.sub (by decide)).tr (f1.sub (by decide))) (fun q => ?_)
    rw [f2 q, hF 36 (by decide)]
  | succ c ih =>
    intro a mem ha hF h37
    refine bk_X10_copy_120 ⟨fun q => ?_, fun _ => ?_⟩
    · rw [nI_leI (by omega) (by omega)] at q; omega
    rw [show (60 : Int32) = nI 60 from rfl, pk_mul, nI_add, nI_add, nI_clamp (by omega), nI_clamp (by omega), nI_1, hF 36 (by decide)]
    refine ⟨nI_inb (by omega) (by decide), nI_inb (by omega) (by decide), ih (a + 1) _ (by omega) (hF.up (by decide) _ _) (fun q hq => ?_)⟩
    rw [up_t]
    simp only [upd]
    by_cases hqa : q = a
    · rw [if_pos hqa, hqa]
    · rw [if_neg hqa]; exact h37 q (by omega)
theorem ag_copy (hO : OK lw ow sf sl) (a1 a2 a3 a4 a5 : Int32) : AGi ro m_X9_copy [.ref 0, .int a1, .int a2, .int a3, .int a4, .int a5, .null, .null] m_X10_copy [.ref 33, .int a1, .int a2, .int a3, .int a4, .int a5, .null] (tx, u, lw, ow, sf, sl, si, lt) := by
  by_cases h : 0 ≤ a1 ∧ a1 ≤ 3
  · by_cases g : 0 ≤ a3 ∧ a3 ≤ 3
    · obtain ⟨s, hs, rfl⟩ := rng' (n := 3) (by decide) h
      obtain ⟨t, ht, rfl⟩ := rng' (n := 3) (by decide) g
      have hinS : pm_inb (nI s) 4 = true := nI_inb (by omega) (by decide)
      have hinT : pm_inb (nI t) 4 = true := nI_inb (by omega) (by decide)
      have hclS : (nI s).toNatClampNeg = s := nI_clamp (by omega)
      have hclT : (nI t).toNatClampNeg = t := nI_clamp (by omega)
      have h60s := (hO.2.2 s (by omega)).2.1
      have h60t := (hO.2.2 t (by omega)).2.1
      -- the class, up to where it looks for the run
      have CB : ∀ (m : pm_M) (Q : Option Value → pm_M → Prop), IC m tx u lw ow sf sl si lt → (sf s = -1 → Q (some (.int (-11))) (pm_up m 0 10 1)) → (¬ sf s = -1 → sf t = -1 → Q (some (.int (-11))) (pm_up m 0 10 1)) → (¬ sf s = -1 → ¬ sf t = -1 → ¬ sf s = sf t → Q (some (.int (-14))) (pm_up m 0 10 4)) → (¬ sf s = -1 → ¬ sf t = -1 → sf s = sf t → ¬ (runOk (sl s) a2 a5 ∧ runOk (sl t) a4 a5) → Q (some (.int (-12))) (pm_up m 0 10 2)) → (¬ sf s = -1 → ¬ sf t = -1 → sf s = sf t → runOk (sl s) a2 a5 → runOk (sl t) a4 a5 → pm_Ex ro m_X6_takeRun 0 [.ref (24 + 2 * t), .ref (24 + 2 * s), .int a2, .int a4, .int a5] [] m (fun v m' => pm_Ex ro m_X9_copy 112 [.ref 0, .int (nI s), .int a2, .int (nI t), .int a4, .int a5, .ref (24 + 2 * s), .ref (24 + 2 * t)] (v.toList ++ []) m' Q)) → pm_Ex ro m_X9_copy 0 [.ref 0, .int (nI s), .int a2, .int (nI t), .int a4, .int a5, .null, .null] [] m Q := by
        intro m Q hI k1 k2 k3 k4 k5
        refine bk_X9_copy_0 ⟨fun _ => ⟨fun _ => ⟨hinS, hinT, ?_⟩, fun q => absurd (rng_iff.mpr g) q⟩, fun q => absurd (rng_iff.mpr h) q⟩
        rw [hclS, hclT, (hI.2.2.2.2.1 s (by omega)).1, (hI.2.2.2.2.1 t (by omega)).1]
        refine ⟨fun q => k1 (Decidable.of_not_not q), fun q => ⟨fun q2 => k2 (Decidable.of_not_not q) (Decidable.of_not_not q2), fun q2 => ⟨fun q3 => ?_, fun q3 => k3 (Decidable.of_not_not q) (Decidable.of_not_not q2) (Decidable.of_not_not q3)⟩⟩⟩
        have q := Decidable.of_not_not q
        have q2 := Decidable.of_not_not q2
        have q3 := Decidable.of_not_not q3
        refine c_hasRun hO.2.2 hI.2.2.2.2.1 (by omega) ?_
        refine bk_X9_copy_79 (shN (by omega)) (shN (by omega)) ⟨fun z => k4 q q2 q3 (fun y => zb0 z y.1), fun z => ?_⟩
        refine c_hasRun hO.2.2 hI.2.2.2.2.1 (by omega) ?_
        exact bk_X9_copy_91 (shN (by omega)) (shN (by omega)) ⟨fun y => k5 q q2 q3 (zb1 z) (zb1 y), fun y => k4 q q2 q3 (fun w => zb0n y w.2)⟩
      have RB : ∀ (m : pm_M) (Q : Option Value → pm_M → Prop), IR m tx u lw ow sf sl si lt → (sf s = -1 → Q (some (.int (-11))) (pm_up m 33 4 1)) → (¬ sf s = -1 → sf t = -1 → Q (some (.int (-11))) (pm_up m 33 4 1)) → (¬ sf s = -1 → ¬ sf t = -1 → ¬ sf s = sf t → Q (some (.int (-14))) (pm_up m 33 4 4)) → (¬ sf s = -1 → ¬ sf t = -1 → sf s = sf t → ¬ (runOk (sl s) a2 a5 ∧ runOk (sl t) a4 a5) → Q (some (.int (-12))) (pm_up m 33 4 2)) → (¬ sf s = -1 → ¬ sf t = -1 → sf s = sf t → runOk (sl s) a2 a5 → runOk (sl t) a4 a5 → pm_Ex ro m_X10_copy 120 [.ref 33, .int (nI s), .int a2, .int (nI t), .int a4, .int a5, .int 0] [] m Q) → pm_Ex ro m_X10_copy 0 [.ref 33, .int (nI s), .int a2, .int (nI t), .int a4, .int a5, .null] [] m Q := by
        intro m Q hI k1 k2 k3 k4 k5
        refine bk_X10_copy_0 ⟨fun _ => ⟨fun _ => ⟨hinS, ?_⟩, fun q => absurd g q⟩, fun q => absurd h q⟩
        rw [hclS, hclT, (hI.2.2.2.1 s (by omega)).1, (hI.2.2.2.1 t (by omega)).1]
        have es : sf s < 0 ↔ sf s = -1 := by rcases (hO.2.2 s (by omega)).1 with z | z | z | z <;> rw [z] <;> decide
        refine ⟨fun q => k1 (es.mp q), fun q => ?_⟩
        have q : ¬ sf s = -1 := fun z => q (es.mpr z)
        refine ⟨hinT, fun q2 => ⟨hinS, hinT, fun q3 => ?_, fun q3 => k3 q ((sf_ge hO.2.2 (by omega)).mp q2) q3⟩, fun q2 => k2 q (Decidable.of_not_not (fun z => q2 ((sf_ge hO.2.2 (by omega)).mpr z)))⟩
        have q2 := (sf_ge hO.2.2 (show t < 4 by omega)).mp q2
        rw [(hI.2.2.2.1 s (by omega)).2.1 q, (hI.2.2.2.1 t (by omega)).2.1 q2]
        have L1 : ∀ (x y : Int32) (n : Nat), n ≤ 60 → (0 < lg_cmp (x.toInt64 + y.toInt64) (nI n).toInt64 ↔ (n : Int) < x.toInt + y.toInt) := fun x y n hn => by
          rw [lg_cmp_gt, Int64.lt_iff_toInt_lt, i64_add, Int32.toInt_toInt64, nI_toInt (by omega)]
        have L2 : ∀ (x y : Int32) (n : Nat), n ≤ 60 → (lg_cmp (x.toInt64 + y.toInt64) (nI n).toInt64 ≤ 0 ↔ x.toInt + y.toInt ≤ (n : Int)) := fun x y n hn => by
          have := L1 x y n hn
          rw [Int32.lt_iff_toInt_lt] at this
          rw [Int32.le_iff_toInt_le, show (0 : Int32).toInt = 0 from rfl] at *
          omega
        simp only [L1 _ _ _ h60s, L2 _ _ _ h60t]
        simp only [Int32.lt_iff_toInt_lt, show (0 : Int32).toInt = 0 from rfl]
        refine ⟨fun z => k4 q q2 q3 (fun y => by omega), fun z => ⟨fun z2 => k4 q q2 q3 (fun y => by omega), fun z2 => ⟨fun z3 => k4 q q2 q3 (fun y => by omega), fun z3 => ⟨hinS, fun z4 => k4 q q2 q3 (fun y => by omega), fun z4 => ⟨hinT, fun z5 => ?_, fun z5 => k4 q q2 q3 (fun y => by omega)⟩⟩⟩⟩⟩
        exact k5 q q2 q3 (by omega) (by omega)
      by_cases n1 : sf s = -1
      · exact ⟨-11, (tx, u, lw, ow, sf, sl, si, 1), hO, fun m _ hI k => CB m _ hI (fun _ => k _ ((Fr.up1 _ _ _).CT (by decide)) (IC.found hI 1)) (fun z => absurd n1 z) (fun z => absurd n1 z) (fun z => absurd n1 z) (fun z => absurd n1 z), fun m _ hI k => RB m _ hI (fun _ => k _ ((Fr.up1 _ _ _).RT (by decide)) (IR.found hI 1)) (fun z => absurd n1 z) (fun z => absurd n1 z) (fun z => absurd n1 z) (fun z => absurd n1 z)⟩
      by_cases n2 : sf t = -1
      · exact ⟨-11, (tx, u, lw, ow, sf, sl, si, 1), hO, fun m _ hI k => CB m _ hI (fun z => absurd z n1) (fun _ _ => k _ ((Fr.up1 _ _ _).CT (by decide)) (IC.found hI 1)) (fun _ z => absurd n2 z) (fun _ z => absurd n2 z) (fun _ z => absurd n2 z), fun m _ hI k => RB m _ hI (fun z => absurd z n1) (fun _ _ => k _ ((Fr.up1 _ _ _).RT (by decide)) (IR.found hI 1)) (fun _ z => absurd n2 z) (fun _ z => absurd n2 z) (fun _ z => absurd n2 z)⟩
      by_cases n3 : sf s = sf t
      · by_cases n4 : runOk (sl s) a2 a5 ∧ runOk (sl t) a4 a5
        · obtain ⟨i, n, rfl, rfl, hin⟩ := runOk_N h60s n4.1
          obtain ⟨j, n', rfl, e, hjn⟩ := runOk_N h60t n4.2
          rw [nI_eq (by omega) (by omega)] at e
          subst e
          refine ⟨1, (tx, u, lw, ow, sf, sl, pm_upR si t (va_cpy (si s) (si t) i j n), lt), hO, fun m _ hI k => CB m _ hI (fun z => absurd z n1) (fun _ z => absurd z n2) (fun _ _ z => absurd n3 z) (fun _ _ _ z => absurd n4 z) (fun _ _ _ _ _ => ?_), fun m _ hI k => RB m _ hI (fun z => absurd z n1) (fun _ z => absurd z n2) (fun _ _ z => absurd n3 z) (fun _ _ _ z => absurd n4 z) (fun _ _ _ _ _ => ?_)⟩
          · refine c_takeRun (by omega) (by omega) (by omega) (by omega) ?_
            refine bk_X9_copy_112 (shN (by omega)) (shN (by omega)) ?_
            refine k _ ?_ (IC.sheet hI (fun q t1 t2 => upR_n (by omega)) (SC.at (s := t) (by omega) hI.2.2.2.2.1 (fun q t1 t2 t3 t4 => upR_n (by omega)) ?_ ?_ (fun b hb => ?_) (fun q hq => ⟨rfl, rfl, upR_n hq⟩)) ?_)
            · refine Fr.upR (Fr.rf _ _) ?_ _
              simp only [CT, List.mem_cons, List.not_mem_nil, or_false]; omega
            · rw [upR_n (by omega)]; exact (hI.2.2.2.2.1 t (by omega)).1
            · rw [upR_n (by omega)]; exact (hI.2.2.2.2.1 t (by omega)).2.1
            · rw [upR_t]
              show _ = pm_upR si t (va_cpy (si s) (si t) i j n) t b
              rw [upR_t]
              simp only [va_cpy]
              split
              · exact (hI.2.2.2.2.1 s (by omega)).2.2 _ (by show i + (b - j) < sl s; omega)
              · exact (hI.2.2.2.2.1 t (by omega)).2.2 _ hb
            · rw [upR_n (by omega)]; exact hI.2.2.2.2.2.1
          · refine r_copy_120 (s := s) (t := t) (i := i) (j := j) (n := n) (by omega) (by omega) (by omega) (by omega) (m0 := m) (fun mem' f1 f2 => ?_) n 0 m (by omega) (Fr.rf _ _) (fun q hq => by omega)
            refine k mem' (f1.RT (by decide)) (IR.sheet hI (by rw [f1 33 (by decide)]) (f1 38 (by decide)) (f1 41 (by decide)) (f1 40 (by decide)) (SR.at (s := t) hI.2.2.2.1 ?_ (fun q _ => by rw [f1 34 (by decide)]) (fun q => ?_) (fun q _ => by rw [f1 35 (by decide)]) (fun b hb => ?_) (fun q b h4 h5 h6 => ?_) hO.2.2 (fun q hq => ⟨rfl, rfl, upR_n hq⟩)) (by rw [f1 33 (by decide)]; exact hI.2.2.2.2))
            · rw [f1 34 (by decide)]; exact (hI.2.2.2.1 t (by omega)).1
            · rw [f1 35 (by decide)]; exact (hI.2.2.2.1 t (by omega)).2.1 q
            · rw [f2]
              show _ = pm_upR si t (va_cpy (si s) (si t) i j n) t b
              rw [upR_t]
              simp only [va_cpy]
              by_cases hz : j ≤ b ∧ b < j + n
              · rw [if_pos (by omega), if_pos hz]
                have := (hI.2.2.2.1 s (by omega)).2.2 (i + (b - j)) (by show i + (b - j) < sl s; omega)
                refine Eq.trans ?_ this
                congr 1; omega
              · rw [if_neg (by omega), if_neg hz]
                exact (hI.2.2.2.1 t (by omega)).2.2 b hb
            · rw [f2, if_neg]
              have : q < t ∨ t < q := by omega
              omega
        · exact ⟨-12, (tx, u, lw, ow, sf, sl, si, 2), hO, fun m _ hI k => CB m _ hI (fun z => absurd z n1) (fun _ z => absurd z n2) (fun _ _ z => absurd n3 z) (fun _ _ _ _ => k _ ((Fr.up1 _ _ _).CT (by decide)) (IC.found hI 2)) (fun _ _ _ z1 z2 => absurd ⟨z1, z2⟩ n4), fun m _ hI k => RB m _ hI (fun z => absurd z n1) (fun _ z => absurd z n2) (fun _ _ z => absurd n3 z) (fun _ _ _ _ => k _ ((Fr.up1 _ _ _).RT (by decide)) (IR.found hI 2)) (fun _ _ _ z1 z2 => absurd ⟨z1, z2⟩ n4)⟩
      · exact ⟨-14, (tx, u, lw, ow, sf, sl, si, 4), hO, fun m _ hI k => CB m _ hI (fun z => absurd z n1) (fun _ z => absurd z n2) (fun _ _ _ => k _ ((Fr.up1 _ _ _).CT (by decide)) (IC.found hI 4)) (fun _ _ z => absurd z n3) (fun _ _ z => absurd z n3), fun m _ hI k => RB m _ hI (fun z => absurd z n1) (fun _ z => absurd z n2) (fun _ _ _ => k _ ((Fr.up1 _ _ _).RT (by decide)) (IR.found hI 4)) (fun _ _ z => absurd z n3) (fun _ _ z => absurd z n3)⟩
    · exact ⟨-2, (tx, u, lw, ow, sf, sl, si, lt), hO, fun m _ hI k => bk_X9_copy_0 ⟨fun q => ⟨fun q2 => absurd (rng_iff.mp q2) g, fun _ => k m (Fr.rf _ _) hI⟩, fun _ => k m (Fr.rf _ _) hI⟩, fun m _ hI k => bk_X10_copy_0 ⟨fun _ => ⟨fun q2 => absurd q2 g, fun _ => k m (Fr.rf _ _) hI⟩, fun _ => k m (Fr.rf _ _) hI⟩⟩
  · exact ⟨-2, (tx, u, lw, ow, sf, sl, si, lt), hO, fun m _ hI k => bk_X9_copy_0 ⟨fun q => absurd (rng_iff.mp q) h, fun _ => k m (Fr.rf _ _) hI⟩, fun m _ hI k => bk_X10_copy_0 ⟨fun q => absurd q h, fun _ => k m (Fr.rf _ _) hI⟩⟩
end CPY
