/-! type, wipe, fault, good, partner, set -/
section FRS
variable {mem mem' : pm_M} {tx : Nat → Nat} {u : Nat} {lw ow : Nat → Nat} {sf : Nat → Int32} {sl : Nat → Nat} {si : Nat → Nat → Int32}
theorem LC.fr (h : LC mem lw) (e : mem' 2 = mem 2) : LC mem' lw := fun j hj => by rw [e]; exact h j hj
theorem LR.fr (h : LR mem lw) (e : mem' 41 = mem 41) : LR mem' lw := fun j hj => by rw [e]; exact h j hj
theorem OC.fr (h : OC mem ow) (e : mem' 12 = mem 12) : OC mem' ow := fun j hj => by rw [e]; exact h j hj
theorem OR.fr (h : OR mem ow) (e : mem' 40 = mem 40) : OR mem' ow := fun j hj => by rw [e]; exact h j hj
theorem SC.fr (h : SC mem sf sl si) (e : ∀ t, 24 ≤ t → t ≤ 31 → mem' t = mem t) : SC mem' sf sl si := fun s hs => by
  rw [e (24 + 2 * s) (by omega) (by omega), e (24 + 2 * s + 1) (by omega) (by omega)]; exact h s hs
theorem SR.fr (h : SR mem sf sl si) (e1 : mem' 34 = mem 34) (e2 : mem' 35 = mem 35) (e3 : mem' 36 = mem 36) : SR mem' sf sl si := fun s hs => by
  rw [e1, e2, e3]; exact h s hs
theorem GC.fr (h : GC mem tx u) (e3 : mem' 3 = mem 3) (e5 : mem' 5 = mem 5) : GC mem' tx u := by unfold GC; rw [e3, e5]; exact h
theorem GR.fr (h : GR mem tx u) (e3 : mem' 33 = mem 33) (e5 : mem' 39 = mem 39) : GR mem' tx u := by unfold GR; rw [e3, e5]; exact h
theorem TI.fr (h : TI mem tx u lw) (e6 : mem' 6 = mem 6) (e7 : mem' 7 = mem 7) (e8 : mem' 8 = mem 8) : TI mem' tx u lw := by unfold TI BI; rw [e6, e7, e8]; exact h
theorem FI.fr (h : FI mem lw) (e15 : mem' 15 = mem 15) (e16 : mem' 16 = mem 16) : FI mem' lw := by unfold FI; rw [e15, e16]; exact h
/-- the till knows nothing -/
theorem TI.no (h0 : mem 7 0 = 0) (h6 : mem 6 6 = 0) (h7 : mem 6 7 = 0) : TI mem tx u lw := ⟨h0, Or.inl h6, Or.inl h7⟩
theorem Fr.CT {T : List Nat} (h : Fr T mem mem') (hs : ∀ t ∈ T, t < 33) : Fr CT mem mem' := h.sub (fun t ht => by
  have := hs t ht
  simp only [CT, List.mem_cons, List.not_mem_nil, or_false]; omega)
theorem Fr.RT {T : List Nat} (h : Fr T mem mem') (hs : ∀ t ∈ T, 33 ≤ t ∧ t < 49) : Fr RT mem mem' := h.sub (fun t ht => by
  have := hs t ht
  simp only [RT, List.mem_cons, List.not_mem_nil, or_false]; omega)
theorem Fr.up1 (t k : Nat) (x : Int32) : Fr [t] mem (pm_up mem t k x) := (Fr.rf _ _).up (List.mem_singleton.mpr rfl) _ _
end FRS
section OPS2
variable {ro : pm_RO} {Q : Option Value → pm_M → Prop} {mem : pm_M} {tx : Nat → Nat} {u : Nat} {lw ow : Nat → Nat} {sf : Nat → Int32} {sl : Nat → Nat} {si : Nat → Nat → Int32} {lt : Int32}
def typU (u : Nat) (a : Int32) : Nat := if (0 ≤ a ∧ a ≤ 255) ∧ u < 50 then u + 1 else u
def typX (tx : Nat → Nat) (u : Nat) (a : Int32) : Nat → Nat := if (0 ≤ a ∧ a ≤ 255) ∧ u < 50 then updN tx u a.toNatClampNeg else tx
def typA (u : Nat) (a : Int32) : Int32 := if 0 ≤ a ∧ a ≤ 255 then (if u < 50 then nI (u + 1) else -4) else -2
theorem TC.push (h : TC mem tx u) (hu : u < 50) {j : Nat} (hj : j ≤ 255) {m1 : pm_M} (e3 : m1 3 2 = nI (u + 1)) (e4 : m1 4 = upd (mem 4) u (nI j)) : TC m1 (updN tx u j) (u + 1) := by
  refine ⟨by omega, e3, fun i hi => ?_, fun i hi => ?_⟩
  · rw [e4]
    simp only [upd, updN]
    split
    · rfl
    · exact h.2.2.1 i (by omega)
  · simp only [updN]
    split
    · omega
    · exact h.2.2.2 i (by omega)
theorem c_type (hI : IC mem tx u lw ow sf sl si lt) {a : Int32} (k : ∀ mem' : pm_M, Fr CT mem mem' → IC mem' (typX tx u a) (typU u a) lw ow sf sl si lt → Q (some (.int (typA u a))) mem') : pm_Ex ro m_X9_type 0 [.ref 0, .int a] [] mem Q := by
  obtain ⟨h1, h2, h3, h4, h5, h6, h7, h8⟩ := id hI
  have hu := h1.1
  unfold typX typU typA at k
  refine bk_X9_type_0 ⟨fun h => ⟨fun h50 => ?_, fun h50 => ?_⟩, fun h => ?_⟩
  · have h' := rng_iff.mp h
    obtain ⟨j, hj, rfl⟩ := rng (n := 255) (by decide) h
    rw [h1.2.1, show (50 : Int32) = nI 50 from rfl, nI_ltI (by omega) (by decide)] at h50
    rw [if_pos ⟨h', h50⟩, if_pos ⟨h', h50⟩, if_pos h', if_pos h50, nI_clamp (by omega)] at k
    refine bk_X1_append_0 ⟨fun q => ?_, fun q => ?_⟩
    · rw [h1.2.1, show (50 : Int32) = nI 50 from rfl, nI_leI (by decide) (by omega)] at q
      omega
    rw [h1.2.1, nI_clamp (by omega), nI_1]
    refine ⟨nI_inb h50 (by decide), ?_⟩
    refine sp_understand (h1.push h50 hj (up_tk _ _ _ _) (by rw [up_n (by decide), up_t])) (fun m2 f1 f2 f3 => ?_)
    refine bk_X1_append_33 ?_
    refine bk_X9_type_37 ?_
    rw [f2.2.1]
    have hF : Fr [3, 4, 5, 6] mem (pm_up (pm_up m2 6 6 0) 6 7 0) := ((((((Fr.rf _ _).up (by decide) _ _).up (by decide) _ _).tr (f1.sub (by decide))).up (by decide) _ _).up (by decide) _ _)
    have e7 : m2 7 = mem 7 := by rw [f1 7 (by decide), up_n (by decide), up_n (by decide)]
    refine k _ (hF.CT (by decide)) ⟨f2.fr (congrFun (by rw [up_n (by decide), up_n (by decide)]) 2) (by rw [up_n (by decide), up_n (by decide)]), f3.fr (by rw [up_n (by decide), up_n (by decide)]) (by rw [up_n (by decide), up_n (by decide)]), h3.fr (hF 2 (by decide)), h4.fr (hF 12 (by decide)), h5.fr (fun t t1 t2 => hF t (by simp only [List.mem_cons, List.not_mem_nil, or_false]; omega)), by rw [hF 0 (by decide)]; exact h6, TI.no ?_ ?_ ?_, h8.fr (hF 15 (by decide)) (hF 16 (by decide))⟩
    · rw [up_n (by decide), up_n (by decide), e7]; exact h7.1
    · rw [up_tj (by decide), up_tk]
    · rw [up_tk]
  · have h' := rng_iff.mp h
    rw [h1.2.1, show (50 : Int32) = nI 50 from rfl, nI_ltI (by omega) (by decide)] at h50
    rw [if_neg (fun q => h50 q.2), if_neg (fun q => h50 q.2), if_pos h', if_neg h50] at k
    exact k mem (Fr.rf _ _) hI
  · have h' : ¬ (0 ≤ a ∧ a ≤ 255) := fun q => h (rng_iff.mpr q)
    rw [if_neg (fun q => h' q.1), if_neg (fun q => h' q.1), if_neg h'] at k
    exact k mem (Fr.rf _ _) hI
theorem TR.push (h : TR mem tx u) (hu : u < 50) {j : Nat} (hj : j ≤ 255) {m1 : pm_M} (e3 : m1 33 6 = nI (u + 1)) (e4 : m1 38 = upd (mem 38) u (nI j)) : TR m1 (updN tx u j) (u + 1) := by
  refine ⟨by omega, e3, fun i hi => ?_, fun i hi => ?_⟩
  · rw [e4]
    simp only [upd, updN]
    split
    · rfl
    · exact h.2.2.1 i (by omega)
  · simp only [updN]
    split
    · omega
    · exact h.2.2.2 i (by omega)
theorem r_type (hI : IR mem tx u lw ow sf sl si lt) {a : Int32} (k : ∀ mem' : pm_M, Fr RT mem mem' → IR mem' (typX tx u a) (typU u a) lw ow sf sl si lt → Q (some (.int (typA u a))) mem') : pm_Ex ro m_X10_type 0 [.ref 33, .int a] [] mem Q := by
  obtain ⟨h1, h2, h3, h4, h5⟩ := id hI
  have hu := h1.1
  unfold typX typU typA at k
  refine bk_X10_type_0 ⟨fun h => ⟨fun h50 => ?_, fun h50 => ?_⟩, fun h => ?_⟩
  · rw [h1.2.1, show (50 : Int32) = nI 50 from rfl, nI_eq (by omega) (by decide)] at h50
    have h50 : u < 50 := by omega
    obtain ⟨j, hj, rfl⟩ := rng' (n := 255) (by decide) h
    rw [if_pos ⟨h, h50⟩, if_pos ⟨h, h50⟩, if_pos h, if_pos h50, nI_clamp (by omega)] at k
    rw [h1.2.1, nI_clamp (by omega), nI_1, up_tk]
    refine ⟨nI_inb h50 (by decide), ?_⟩
    have hF : Fr [33, 38] mem (pm_up (pm_up mem 38 u (nI j)) 33 6 (nI (u + 1))) := ((Fr.rf _ _).up (by decide) _ _).up (by decide) _ _
    refine k _ (hF.RT (by decide)) ⟨h1.push h50 hj (up_tk _ _ _ _) (by rw [up_n (by decide), up_t]), h2.fr (hF 41 (by decide)), h3.fr (hF 40 (by decide)), h4.fr (hF 34 (by decide)) (hF 35 (by decide)) (hF 36 (by decide)), ?_⟩
    rw [up_tj (by decide), up_n (by decide)]
    exact h5
  · rw [h1.2.1, show (50 : Int32) = nI 50 from rfl, nI_eq (by omega) (by decide)] at h50
    have h50 : ¬ u < 50 := by omega
    rw [if_neg (fun q => h50 q.2), if_neg (fun q => h50 q.2), if_pos h, if_neg h50] at k
    exact k mem (Fr.rf _ _) hI
  · rw [if_neg (fun q => h q.1), if_neg (fun q => h q.1), if_neg h] at k
    exact k mem (Fr.rf _ _) hI
theorem c_wipe (hI : IC mem tx u lw ow sf sl si lt) (k : ∀ mem' : pm_M, Fr CT mem mem' → IC mem' tx 0 lw ow sf sl si lt → Q (some (.int (nI u))) mem') : pm_Ex ro m_X9_wipe 0 [.ref 0, .null] [] mem Q := by
  obtain ⟨h1, h2, h3, h4, h5, h6, h7, h8⟩ := id hI
  refine bk_X9_wipe_0 ?_
  rw [h1.2.1]
  refine bk_X1_clear_0 ?_
  refine sp_understand (tx := tx) (u := 0) ⟨by omega, up_tk _ _ _ _, fun j hj => by omega, fun j hj => by omega⟩ (fun m2 f1 f2 f3 => ?_)
  refine bk_X1_clear_9 ?_
  refine bk_X9_wipe_15 ?_
  have hF : Fr [3, 4, 5, 6] mem (pm_up (pm_up m2 6 6 0) 6 7 0) := (((((Fr.rf _ _).up (by decide) _ _).tr (f1.sub (by decide))).up (by decide) _ _).up (by decide) _ _)
  have e7 : m2 7 = mem 7 := by rw [f1 7 (by decide), up_n (by decide)]
  refine k _ (hF.CT (by decide)) ⟨f2.fr (congrFun (by rw [up_n (by decide), up_n (by decide)]) 2) (by rw [up_n (by decide), up_n (by decide)]), f3.fr (by rw [up_n (by decide), up_n (by decide)]) (by rw [up_n (by decide), up_n (by decide)]), h3.fr (hF 2 (by decide)), h4.fr (hF 12 (by decide)), h5.fr (fun t t1 t2 => hF t (by simp only [List.mem_cons, List.not_mem_nil, or_false]; omega)), by rw [hF 0 (by decide)]; exact h6, TI.no ?_ ?_ ?_, h8.fr (hF 15 (by decide)) (hF 16 (by decide))⟩
  · rw [up_n (by decide), up_n (by decide), e7]; exact h7.1
  · rw [up_tj (by decide), up_tk]
  · rw [up_tk]
theorem r_wipe (hI : IR mem tx u lw ow sf sl si lt) (k : ∀ mem' : pm_M, Fr RT mem mem' → IR mem' tx 0 lw ow sf sl si lt → Q (some (.int (nI u))) mem') : pm_Ex ro m_X10_wipe 0 [.ref 33, .null] [] mem Q := by
  obtain ⟨h1, h2, h3, h4, h5⟩ := id hI
  refine bk_X10_wipe_0 ?_
  rw [h1.2.1]
  have hF : Fr [33] mem (pm_up mem 33 6 0) := Fr.up1 _ _ _
  refine k _ (hF.RT (by decide)) ⟨⟨by omega, up_tk _ _ _ _, fun j hj => by omega, fun j hj => by omega⟩, h2.fr (hF 41 (by decide)), h3.fr (hF 40 (by decide)), h4.fr (hF 34 (by decide)) (hF 35 (by decide)) (hF 36 (by decide)), ?_⟩
  rw [up_tj (by decide)]; exact h5
/-- behind reads() the reference holds what it held -/
theorem IR.rd {mem' : pm_M} (hI : IR mem tx u lw ow sf sl si lt) (hF : Fr [33, 39] mem mem') (hS : S33 mem mem') : IR mem' tx u lw ow sf sl si lt := by
  obtain ⟨h1, h2, h3, h4, h5⟩ := hI
  refine ⟨h1.fr (hS 6 (by decide) (by decide) (by decide)) (hF 38 (by decide)), h2.fr (hF 41 (by decide)), h3.fr (hF 40 (by decide)), h4.fr (hF 34 (by decide)) (hF 35 (by decide)) (hF 36 (by decide)), ?_⟩
  rw [hS 4 (by decide) (by decide) (by decide)]; exact h5
theorem c_fault (hI : IC mem tx u lw ow sf sl si lt) (k : Q (some (.int (pzF tx u))) mem) : pm_Ex ro m_X9_fault 0 [.ref 0] [] mem Q := by
  refine bk_X9_fault_0 ?_
  rw [hI.2.1.2.2.1]
  exact k
theorem r_reads (hI : IR mem tx u lw ow sf sl si lt) (k : ∀ mem' : pm_M, Fr RT mem mem' → IR mem' tx u lw ow sf sl si lt → GR mem' tx u → Q (some (.int (pzF tx u))) mem') : pm_Ex ro m_X10_reads 0 [.ref 33, .null] [] mem Q :=
  sp_reads hI.1 (fun m1 f1 f2 _ f4 => k m1 (f1.RT (by decide)) (hI.rd f1 f2) f4)
theorem r_fault (hI : IR mem tx u lw ow sf sl si lt) (k : ∀ mem' : pm_M, Fr RT mem mem' → IR mem' tx u lw ow sf sl si lt → Q (some (.int (pzF tx u))) mem') : pm_Ex ro m_X10_fault 0 [.ref 33] [] mem Q :=
  bk_X10_fault_0 (r_reads hI (fun m1 f1 f2 _ => bk_X10_fault_4 (k m1 f1 f2)))
theorem bit_eq {g w : Nat} (hg : g < 8) (hw : w < 256) : zb (¬ ((nI w &&& ((1 : Int32) <<< (nI g &&& 31))) = 0)) = (nI w >>> (nI g &&& 31)) &&& 1 := by
  have key : ∀ g, g < 8 → ∀ w, w < 256 → zb (¬ ((nI w &&& ((1 : Int32) <<< (nI g &&& 31))) = 0)) = (nI w >>> (nI g &&& 31)) &&& 1 := by decide +kernel
  exact key g hg w hw
theorem pzW_256 (tx : Nat → Nat) (u : Nat) : pzW tx u < 256 := Nat.lt_of_lt_of_le (pzW_lt tx u) (Nat.le_trans (Nat.pow_le_pow_right (by decide) (pzG_le tx u)) (by decide))
/-- of one of the GOODS -/
def gdA (tx : Nat → Nat) (u : Nat) (ow : Nat → Nat) (g what : Nat) : Int32 := if what = 0 then nI (pzP tx u g) else if what = 1 then (nI (pzW tx u) >>> (nI g &&& 31)) &&& 1 else nI (ow g)
def goodA (tx : Nat → Nat) (u : Nat) (ow : Nat → Nat) (a b : Int32) : Int32 := if (0 ≤ a ∧ a ≤ nI (pzG tx u) - 1) ∧ 0 ≤ b ∧ b ≤ 2 then gdA tx u ow a.toNatClampNeg b.toNatClampNeg else -2
/-- a is the number of one of n things -/
theorem rngP {a : Int32} {n : Nat} (hn : n < 2 ^ 30) (h : 0 ≤ a ∧ a ≤ nI n - 1) : ∃ j, j < n ∧ a = nI j := by
  have h1 : ¬ a < 0 := by
    have := h.1; rw [Int32.le_iff_toInt_le] at this; rw [Int32.lt_iff_toInt_lt]; omega
  obtain ⟨j, hj, rfl⟩ := nI_of h1
  refine ⟨j, ?_, rfl⟩
  have h2 := h.2
  rw [Int32.le_iff_toInt_le, nI_toInt hj, show (1 : Int32) = nI 1 from rfl, pk_sub_toInt (by omega) (by decide)] at h2
  omega
theorem c_good (hI : IC mem tx u lw ow sf sl si lt) {a b : Int32} (k : Q (some (.int (goodA tx u ow a b))) mem) : pm_Ex ro m_X9_good 0 [.ref 0, .int a, .int b] [] mem Q := by
  obtain ⟨h1, h2, h3, h4, h5, h6, h7, h8⟩ := hI
  have hG := pzG_le tx u
  unfold goodA at k
  refine bk_X9_good_0 ⟨fun h => ?_, fun h => ?_⟩
  · rw [h2.1] at h
    have h' := rng_iff.mp h
    obtain ⟨j, hj, rfl⟩ := rngP (by omega) h'
    by_cases e0 : b = 0
    · subst e0
      rw [if_pos ⟨h', by decide, by decide⟩, nI_clamp (by omega)] at k
      refine bk_X9_good_12_c0 ⟨nI_inb (by omega) (by decide), ?_⟩
      rw [nI_clamp (by omega), h2.2.2.2 j hj]
      exact k
    by_cases e1 : b = 1
    · subst e1
      rw [if_pos ⟨h', by decide, by decide⟩, nI_clamp (by omega)] at k
      refine bk_X9_good_12_c1 ?_
      rw [h2.2.1, bit_eq (by omega) (pzW_256 tx u)]
      exact k
    by_cases e2 : b = 2
    · subst e2
      rw [if_pos ⟨h', by decide, by decide⟩, nI_clamp (by omega)] at k
      refine bk_X9_good_12_c2 ⟨nI_inb (by omega) (by decide), ?_⟩
      rw [nI_clamp (by omega), h4 j (by omega)]
      exact k
    · refine bk_X9_good_12_d e0 e1 e2 ?_
      rw [if_neg ?_] at k
      · exact k
      · rintro ⟨-, q⟩
        obtain ⟨i, hi, rfl⟩ := rng' (n := 2) (by decide) q
        rcases (show i = 0 ∨ i = 1 ∨ i = 2 by omega) with rfl | rfl | rfl
        · exact e0 rfl
        · exact e1 rfl
        · exact e2 rfl
  · rw [h2.1] at h
    rw [if_neg (fun q => h (rng_iff.mpr q.1))] at k
    exact k
theorem r_goodOf {mem : pm_M} (hO : OR mem ow) (hG : GR mem tx u) {g what : Nat} (hg : g < pzG tx u) (hw : what ≤ 2) (k : Q (some (.int (gdA tx u ow g what))) mem) : pm_Ex ro m_X10_goodOf 0 [.ref 33, .int (nI g), .int (nI what)] [] mem Q := by
  have hG8 := pzG_le tx u
  unfold gdA at k
  refine bk_X10_goodOf_0 ⟨fun q0 => ⟨fun q1 => ?_, fun q1 => ?_⟩, fun q0 => ?_⟩
  · rw [nI_eq0 (by omega)] at q0
    rw [nI_eq1 (by omega)] at q1
    rw [if_neg q0, if_neg q1] at k
    refine ⟨nI_inb (by omega) (by decide), ?_⟩
    rw [nI_clamp (by omega), hO g (by omega)]
    exact k
  · rw [nI_eq0 (by omega)] at q0
    have q1 := Decidable.of_not_not q1
    rw [nI_eq1 (by omega)] at q1
    rw [if_neg q0, if_pos q1] at k
    rw [hG.2.1]
    exact k
  · have q0 := Decidable.of_not_not q0
    rw [nI_eq0 (by omega)] at q0
    rw [if_pos q0] at k
    refine ⟨nI_inb (by omega) (by decide), ?_⟩
    rw [nI_clamp (by omega), hG.2.2 g hg]
    exact k
theorem r_good (hI : IR mem tx u lw ow sf sl si lt) {a b : Int32} (k : ∀ mem' : pm_M, Fr RT mem mem' → IR mem' tx u lw ow sf sl si lt → Q (some (.int (goodA tx u ow a b))) mem') : pm_Ex ro m_X10_good 0 [.ref 33, .int a, .int b] [] mem Q := by
  have hG8 := pzG_le tx u
  unfold goodA at k
  refine bk_X10_good_0 (bk_X10_isGood_0 (r_reads hI (fun m1 f1 f2 f3 => bk_X10_isGood_4 ?_)))
  rw [f3.1]
  refine bk_X10_good_5 ⟨fun q => ?_, fun q => ⟨fun q2 => ?_, fun q2 => ?_⟩⟩
  · rw [if_neg (fun z => zb0 q z.1)] at k
    exact k m1 f1 f2
  · have q := zb1 q
    obtain ⟨j, hj, rfl⟩ := rngP (by omega) q
    obtain ⟨i, hi, rfl⟩ := rng' (n := 2) (by decide) q2
    rw [if_pos ⟨q, q2⟩, nI_clamp (by omega), nI_clamp (by omega)] at k
    exact r_goodOf f2.2.2.1 f3 hj hi (bk_X10_good_26 (k m1 f1 f2))
  · rw [if_neg (fun z => q2 z.2)] at k
    exact k m1 f1 f2
def prtO (ow : Nat → Nat) (a b : Int32) : Nat → Nat := if (0 ≤ a ∧ a ≤ 7) ∧ 0 ≤ b ∧ b ≤ 3 then updN ow a.toNatClampNeg b.toNatClampNeg else ow
def prtA (ow : Nat → Nat) (a b : Int32) : Int32 := if (0 ≤ a ∧ a ≤ 7) ∧ 0 ≤ b ∧ b ≤ 3 then nI (ow a.toNatClampNeg) else -2
theorem prt_ok (h : OKO ow) (a b : Int32) : OKO (prtO ow a b) := by
  unfold prtO
  split
  · next q =>
    obtain ⟨i, hi, e⟩ := rng' (n := 3) (by decide) q.2
    intro j hj
    simp only [updN]
    split
    · rw [e, nI_clamp (by omega)]; omega
    · exact h j hj
  · exact h
theorem c_partner (hI : IC mem tx u lw ow sf sl si lt) {a b : Int32} (k : ∀ mem' : pm_M, Fr CT mem mem' → IC mem' tx u lw (prtO ow a b) sf sl si lt → Q (some (.int (prtA ow a b))) mem') : pm_Ex ro m_X9_partner 0 [.ref 0, .int a, .int b, .null] [] mem Q := by
  obtain ⟨h1, h2, h3, h4, h5, h6, h7, h8⟩ := id hI
  unfold prtO prtA at k
  refine bk_X9_partner_0 ⟨fun h => ⟨fun g => ?_, fun g => ?_⟩, fun h => ?_⟩
  · have h' := rng_iff.mp h
    have g' := rng_iff.mp g
    obtain ⟨j, hj, rfl⟩ := rng (n := 7) (by decide) h
    obtain ⟨i, hi, rfl⟩ := rng (n := 3) (by decide) g
    rw [if_pos ⟨h', g'⟩, if_pos ⟨h', g'⟩, nI_clamp (by omega), nI_clamp (by omega)] at k
    refine ⟨nI_inb (by omega) (by decide), nI_inb (by omega) (by decide), ?_⟩
    rw [nI_clamp (by omega), h4 j (by omega)]
    have hF : Fr [12] mem (pm_up mem 12 j (nI i)) := Fr.up1 _ _ _
    refine k _ (hF.CT (by decide)) ⟨h1.fr (congrFun (hF 3 (by decide)) 2) (hF 4 (by decide)), h2.fr (hF 3 (by decide)) (hF 5 (by decide)), h3.fr (hF 2 (by decide)), fun q hq => ?_, h5.fr (fun t t1 t2 => hF t (by simp only [List.mem_cons, List.not_mem_nil, or_false]; omega)), by rw [hF 0 (by decide)]; exact h6, h7.fr (hF 6 (by decide)) (hF 7 (by decide)) (hF 8 (by decide)), h8.fr (hF 15 (by decide)) (hF 16 (by decide))⟩
    rw [up_t]
    simp only [upd, updN]
    split
    · rfl
    · exact h4 q hq
  · rw [if_neg (fun q => g (rng_iff.mpr q.2)), if_neg (fun q => g (rng_iff.mpr q.2))] at k
    exact k mem (Fr.rf _ _) hI
  · rw [if_neg (fun q => h (rng_iff.mpr q.1)), if_neg (fun q => h (rng_iff.mpr q.1))] at k
    exact k mem (Fr.rf _ _) hI
theorem r_partner (hI : IR mem tx u lw ow sf sl si lt) {a b : Int32} (k : ∀ mem' : pm_M, Fr [40] mem mem' → IR mem' tx u lw (prtO ow a b) sf sl si lt → Q (some (.int (prtA ow a b))) mem') : pm_Ex ro m_X10_partner 0 [.ref 33, .int a, .int b, .null] [] mem Q := by
  obtain ⟨h1, h2, h3, h4, h5⟩ := id hI
  unfold prtO prtA at k
  refine bk_X10_partner_0 ⟨fun h => ⟨fun g => ?_, fun g => ?_⟩, fun h => ?_⟩
  · obtain ⟨j, hj, rfl⟩ := rng' (n := 7) (by decide) h
    obtain ⟨i, hi, rfl⟩ := rng' (n := 3) (by decide) g
    rw [if_pos ⟨h, g⟩, if_pos ⟨h, g⟩, nI_clamp (by omega), nI_clamp (by omega)] at k
    refine ⟨nI_inb (by omega) (by decide), nI_inb (by omega) (by decide), ?_⟩
    rw [nI_clamp (by omega), h3 j (by omega)]
    have hF : Fr [40] mem (pm_up mem 40 j (nI i)) := Fr.up1 _ _ _
    refine k _ hF ⟨h1.fr (congrFun (hF 33 (by decide)) 6) (hF 38 (by decide)), h2.fr (hF 41 (by decide)), fun q hq => ?_, h4.fr (hF 34 (by decide)) (hF 35 (by decide)) (hF 36 (by decide)), by rw [hF 33 (by decide)]; exact h5⟩
    rw [up_t]
    simp only [upd, updN]
    split
    · rfl
    · exact h3 q hq
  · rw [if_neg (fun q => g q.2), if_neg (fun q => g q.2)] at k
    exact k mem (Fr.rf _ _) hI
  · rw [if_neg (fun q => h q.1), if_neg (fun q => h q.1)] at k
    exact k mem (Fr.rf _ _) hI
def c49 : Nat → Int32 := fun j => if j = 0 then 2 else if j = 3 then 1 else 0
def c50 : Nat → Int32 := fun j => if j = 0 then 36 else if j = 1 then 1 else if j = 2 then 99 else 4
def c51 : Nat → Int32 := fun j => if j = 0 then 6 else if j = 3 then 6 else 2
def setL (lw : Nat → Nat) (a b : Int32) : Nat → Nat := if (0 ≤ a ∧ a ≤ 3) ∧ c49 a.toNatClampNeg ≤ b ∧ b ≤ c50 a.toNatClampNeg then updN lw a.toNatClampNeg b.toNatClampNeg else lw
def setA (lw : Nat → Nat) (a b : Int32) : Int32 := if (0 ≤ a ∧ a ≤ 3) ∧ c49 a.toNatClampNeg ≤ b ∧ b ≤ c50 a.toNatClampNeg then nI (lw a.toNatClampNeg) else -2
/-- the law's values stay within their bounds -/
theorem set_v {j : Nat} (hj : j ≤ 3) {b : Int32} (h : c49 j ≤ b ∧ b ≤ c50 j) : ∃ i : Nat, b = nI i ∧ i ≤ 99 ∧ (j = 0 → 2 ≤ i ∧ i ≤ 36) ∧ (j = 1 → i ≤ 1) ∧ (j = 3 → 1 ≤ i ∧ i ≤ 4) := by
  have h0 : (0 : Int32) ≤ c49 j := by
    rcases (show j = 0 ∨ j = 1 ∨ j = 2 ∨ j = 3 by omega) with rfl | rfl | rfl | rfl <;> decide
  have hb : ¬ b < 0 := by
    have := h.1
    rw [Int32.le_iff_toInt_le] at this h0
    rw [Int32.lt_iff_toInt_lt]; omega
  obtain ⟨i, hi, rfl⟩ := nI_of hb
  refine ⟨i, rfl, ?_⟩
  rcases (show j = 0 ∨ j = 1 ∨ j = 2 ∨ j = 3 by omega) with rfl | rfl | rfl | rfl
  · have q1 : nI 2 ≤ nI i := h.1
    have q2 : nI i ≤ nI 36 := h.2
    rw [nI_leI (by decide) hi] at q1
    rw [nI_leI hi (by decide)] at q2
    omega
  · have q2 : nI i ≤ nI 1 := h.2
    rw [nI_leI hi (by decide)] at q2
    omega
  · have q2 : nI i ≤ nI 99 := h.2
    rw [nI_leI hi (by decide)] at q2
    omega
  · have q1 : nI 1 ≤ nI i := h.1
    have q2 : nI i ≤ nI 4 := h.2
    rw [nI_leI (by decide) hi] at q1
    rw [nI_leI hi (by decide)] at q2
    omega
theorem set_ok (h : OKL lw) (a b : Int32) : OKL (setL lw a b) := by
  unfold setL
  split
  · next q =>
    obtain ⟨j, hj, rfl⟩ := rng' (n := 3) (by decide) q.1
    rw [nI_clamp (by omega)] at q ⊢
    obtain ⟨i, rfl, b1, b2, b3, b4⟩ := set_v hj q.2
    rw [nI_clamp (by omega)]
    obtain ⟨g1, g2, g3, g4, g5, g6⟩ := h
    simp only [OKL, updN]
    rcases (show j = 0 ∨ j = 1 ∨ j = 2 ∨ j = 3 by omega) with rfl | rfl | rfl | rfl <;> simp <;> omega
  · exact h
theorem c_set (h49 : ro 49 = some (4, c49)) (h50 : ro 50 = some (4, c50)) (hI : IC mem tx u lw ow sf sl si lt) {a b : Int32} (k : ∀ mem' : pm_M, Fr CT mem mem' → IC mem' tx u (setL lw a b) ow sf sl si lt → Q (some (.int (setA lw a b))) mem') : pm_Ex ro m_X9_set 0 [.ref 0, .int a, .int b, .null] [] mem Q := by
  obtain ⟨h1, h2, h3, h4, h5, h6, h7, h8⟩ := id hI
  unfold setL setA at k
  refine bk_X9_set_0 h49 h50 ⟨fun h => ?_, fun h => ?_⟩
  · have h' := rng_iff.mp h
    obtain ⟨j, hj, rfl⟩ := rng (n := 3) (by decide) h
    rw [nI_clamp (by omega)] at k ⊢
    refine ⟨nI_inb (by omega) (by decide), nI_inb (by omega) (by decide), fun g => ?_, fun g => ?_⟩
    · have g' := rng_iff.mp g
      rw [if_pos ⟨h', g'⟩, if_pos ⟨h', g'⟩] at k
      obtain ⟨i, rfl, b1, -⟩ := set_v hj g'
      rw [nI_clamp (by omega)] at k
      refine ⟨nI_inb (by omega) (by decide), nI_inb (by omega) (by decide), ?_⟩
      rw [h3 j (by omega)]
      have hF : Fr [2, 6, 15] mem (pm_up (pm_up (pm_up (pm_up mem 2 j (nI i)) 6 6 0) 6 7 0) 15 2 0) := ((((Fr.rf _ _).up (by decide) _ _).up (by decide) _ _).up (by decide) _ _).up (by decide) _ _
      refine k _ (hF.CT (by decide)) ⟨h1.fr (congrFun (hF 3 (by decide)) 2) (hF 4 (by decide)), h2.fr (hF 3 (by decide)) (hF 5 (by decide)), fun q hq => ?_, h4.fr (hF 12 (by decide)), h5.fr (fun t t1 t2 => hF t (by simp only [List.mem_cons, List.not_mem_nil, or_false]; omega)), by rw [hF 0 (by decide)]; exact h6, TI.no ?_ ?_ ?_, Or.inl (up_tk _ _ _ _)⟩
      · rw [up_n (by decide), up_n (by decide), up_n (by decide), up_t]
        simp only [upd, updN]
        split
        · rfl
        · exact h3 q hq
      · rw [hF 7 (by decide)]; exact h7.1
      · rw [up_n (by decide), up_tj (by decide), up_tk]
      · rw [up_n (by decide), up_tk]
    · rw [if_neg (fun q => g (rng_iff.mpr q.2)), if_neg (fun q => g (rng_iff.mpr q.2))] at k
      exact k mem (Fr.rf _ _) hI
  · rw [if_neg (fun q => h (rng_iff.mpr q.1)), if_neg (fun q => h (rng_iff.mpr q.1))] at k
    exact k mem (Fr.rf _ _) hI
theorem r_set (hI : IR mem tx u lw ow sf sl si lt) {a b : Int32} (k : ∀ mem' : pm_M, Fr RT mem mem' → IR mem' tx u (setL lw a b) ow sf sl si lt → Q (some (.int (setA lw a b))) mem') : pm_Ex ro m_X10_set 0 [.ref 33, .int a, .int b, .null, .null, .null] [] mem Q := by
  obtain ⟨h1, h2, h3, h4, h5⟩ := id hI
  unfold setL setA at k
  refine bk_X10_set_0 ⟨fun h => ?_, fun h => ?_⟩
  · obtain ⟨j, hj, rfl⟩ := rng' (n := 3) (by decide) h
    rw [nI_clamp (by omega)] at k ⊢
    have e1 : (if ¬ nI j = 0 then zb (¬ (¬ nI j = 3)) else 2 : Int32) = c49 j := by
      rcases (show j = 0 ∨ j = 1 ∨ j = 2 ∨ j = 3 by omega) with rfl | rfl | rfl | rfl <;> decide
    have e2 : (if ¬ nI j = 0 then (if ¬ nI j = 1 then (if ¬ nI j = 2 then 4 else 99 : Int32) else 1 : Int32) else 36 : Int32) = c50 j := by
      rcases (show j = 0 ∨ j = 1 ∨ j = 2 ∨ j = 3 by omega) with rfl | rfl | rfl | rfl <;> decide
    rw [e1, e2]
    refine ⟨fun g => ?_, fun g => ?_⟩
    · rw [if_pos ⟨h, g⟩, if_pos ⟨h, g⟩] at k
      obtain ⟨i, rfl, b1, -⟩ := set_v hj g
      rw [nI_clamp (by omega)] at k
      refine ⟨nI_inb (by omega) (by decide), nI_inb (by omega) (by decide), ?_⟩
      rw [h2 j (by omega)]
      have hF : Fr [41] mem (pm_up mem 41 j (nI i)) := Fr.up1 _ _ _
      refine k _ (hF.RT (by decide)) ⟨h1.fr (congrFun (hF 33 (by decide)) 6) (hF 38 (by decide)), fun q hq => ?_, h3.fr (hF 40 (by decide)), h4.fr (hF 34 (by decide)) (hF 35 (by decide)) (hF 36 (by decide)), by rw [hF 33 (by decide)]; exact h5⟩
      rw [up_t]
      simp only [upd, updN]
      split
      · rfl
      · exact h2 q hq
    · rw [if_neg (fun q => g q.2), if_neg (fun q => g q.2)] at k
      exact k mem (Fr.rf _ _) hI
  · rw [if_neg (fun q => h q.1), if_neg (fun q => h q.1)] at k
    exact k mem (Fr.rf _ _) hI
end OPS2
