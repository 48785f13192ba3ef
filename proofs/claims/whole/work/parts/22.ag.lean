/-! AGREEMENT: the same answer, and both go on with the same state -/
abbrev SG : Type := (Nat → Nat) × Nat × (Nat → Nat) × (Nat → Nat) × (Nat → Int32) × (Nat → Nat) × (Nat → Nat → Int32) × Int32
def ICs (mem : pm_M) (σ : SG) : Prop := IC mem σ.1 σ.2.1 σ.2.2.1 σ.2.2.2.1 σ.2.2.2.2.1 σ.2.2.2.2.2.1 σ.2.2.2.2.2.2.1 σ.2.2.2.2.2.2.2
def IRs (mem : pm_M) (σ : SG) : Prop := IR mem σ.1 σ.2.1 σ.2.2.1 σ.2.2.2.1 σ.2.2.2.2.1 σ.2.2.2.2.2.1 σ.2.2.2.2.2.2.1 σ.2.2.2.2.2.2.2
def OKs (σ : SG) : Prop := OK σ.2.2.1 σ.2.2.2.1 σ.2.2.2.2.1 σ.2.2.2.2.2.1
def CC (ro : pm_RO) (y : Nat) (ls : List Value) (σ : SG) (r : Value) (σ' : SG) : Prop := ∀ (mem : pm_M) (Q : Option Value → pm_M → Prop), ICs mem σ → (∀ mem' : pm_M, Fr CT mem mem' → ICs mem' σ' → Q (some r) mem') → pm_Ex ro y 0 ls [] mem Q
def RR (ro : pm_RO) (y : Nat) (ls : List Value) (σ : SG) (r : Value) (σ' : SG) : Prop := ∀ (mem : pm_M) (Q : Option Value → pm_M → Prop), IRs mem σ → (∀ mem' : pm_M, Fr RT mem mem' → IRs mem' σ' → Q (some r) mem') → pm_Ex ro y 0 ls [] mem Q
def AGi (ro : pm_RO) (yC : Nat) (lsC : List Value) (yR : Nat) (lsR : List Value) (σ : SG) : Prop := ∃ (r : Int32) (σ' : SG), OKs σ' ∧ CC ro yC lsC σ (.int r) σ' ∧ RR ro yR lsR σ (.int r) σ'
def AGl (ro : pm_RO) (yC : Nat) (lsC : List Value) (yR : Nat) (lsR : List Value) (σ : SG) : Prop := ∃ (r : Int64) (σ' : SG), OKs σ' ∧ CC ro yC lsC σ (.long r) σ' ∧ RR ro yR lsR σ (.long r) σ'
section AG1
variable {ro : pm_RO} {tx : Nat → Nat} {u : Nat} {lw ow : Nat → Nat} {sf : Nat → Int32} {sl : Nat → Nat} {si : Nat → Nat → Int32} {lt : Int32}
theorem ag_type (hO : OK lw ow sf sl) (a : Int32) : AGi ro m_X9_type [.ref 0, .int a] m_X10_type [.ref 33, .int a] (tx, u, lw, ow, sf, sl, si, lt) :=
  ⟨typA u a, (typX tx u a, typU u a, lw, ow, sf, sl, si, lt), hO, fun _ _ hI k => c_type hI k, fun _ _ hI k => r_type hI k⟩
theorem ag_wipe (hO : OK lw ow sf sl) : AGi ro m_X9_wipe [.ref 0, .null] m_X10_wipe [.ref 33, .null] (tx, u, lw, ow, sf, sl, si, lt) :=
  ⟨nI u, (tx, 0, lw, ow, sf, sl, si, lt), hO, fun _ _ hI k => c_wipe hI k, fun _ _ hI k => r_wipe hI k⟩
theorem ag_fault (hO : OK lw ow sf sl) : AGi ro m_X9_fault [.ref 0] m_X10_fault [.ref 33] (tx, u, lw, ow, sf, sl, si, lt) :=
  ⟨pzF tx u, (tx, u, lw, ow, sf, sl, si, lt), hO, fun m _ hI k => c_fault hI (k m (Fr.rf _ _) hI), fun _ _ hI k => r_fault hI k⟩
theorem ag_good (hO : OK lw ow sf sl) (a b : Int32) : AGi ro m_X9_good [.ref 0, .int a, .int b] m_X10_good [.ref 33, .int a, .int b] (tx, u, lw, ow, sf, sl, si, lt) :=
  ⟨goodA tx u ow a b, (tx, u, lw, ow, sf, sl, si, lt), hO, fun m _ hI k => c_good hI (k m (Fr.rf _ _) hI), fun _ _ hI k => r_good hI k⟩
theorem ag_set (h49 : ro 49 = some (4, c49)) (h50 : ro 50 = some (4, c50)) (hO : OK lw ow sf sl) (a b : Int32) : AGi ro m_X9_set [.ref 0, .int a, .int b, .null] m_X10_set [.ref 33, .int a, .int b, .null, .null, .null] (tx, u, lw, ow, sf, sl, si, lt) :=
  ⟨setA lw a b, (tx, u, setL lw a b, ow, sf, sl, si, lt), ⟨set_ok hO.1 a b, hO.2⟩, fun _ _ hI k => c_set h49 h50 hI k, fun _ _ hI k => r_set hI k⟩
theorem ag_partner (hO : OK lw ow sf sl) (a b : Int32) : AGi ro m_X9_partner [.ref 0, .int a, .int b, .null] m_X10_partner [.ref 33, .int a, .int b, .null] (tx, u, lw, ow, sf, sl, si, lt) :=
  ⟨prtA ow a b, (tx, u, lw, prtO ow a b, sf, sl, si, lt), ⟨hO.1, prt_ok hO.2.1 a b, hO.2.2⟩, fun _ _ hI k => c_partner hI k, fun _ _ hI k => r_partner hI (fun m f g => k m (f.RT (by decide)) g)⟩
theorem ag_paid (hO : OK lw ow sf sl) (a : Int32) : AGi ro m_X9_paid [.ref 0, .int a] m_X10_paid [.ref 33, .int a] (tx, u, lw, ow, sf, sl, si, lt) :=
  ⟨paidA lw a, (tx, u, lw, ow, sf, sl, si, lt), hO, fun m _ hI k => c_paid hO.1 hI.2.2.1 (k m (Fr.rf _ _) hI), fun m _ hI k => r_paid hO.1 hI.2.1 (k m (Fr.rf _ _) hI)⟩
theorem ag_added (hO : OK lw ow sf sl) (a : Int32) : AGi ro m_X9_added [.ref 0, .int a, .null, .null, .null, .null] m_X10_added [.ref 33, .int a] (tx, u, lw, ow, sf, sl, si, lt) :=
  ⟨addA lw a, (tx, u, lw, ow, sf, sl, si, lt), hO, fun m _ hI k => c_added hO.1 hI.2.2.1 (k m (Fr.rf _ _) hI), fun m _ hI k => r_added hO.1 hI.2.1 (k m (Fr.rf _ _) hI)⟩
theorem ag_sheet (hO : OK lw ow sf sl) (a f n : Int32) : AGi ro m_X9_sheet [.ref 0, .int a, .int f, .int n] m_X10_sheet [.ref 33, .int a, .int f, .int n, .null] (tx, u, lw, ow, sf, sl, si, lt) :=
  ⟨shtA a f n, (tx, u, lw, ow, shtF sf a f n, shtL sl a f n, shtI si a f n, shtT lt a f n), ⟨hO.1, hO.2.1, sht_ok hO.2.2 a f n⟩, fun _ _ hI k => c_sheet hI k, fun _ _ hI k => r_sheet hO.2.2 hI k⟩
theorem sf_ge (hO : OKS sf sl) {s : Nat} (hs : s < 4) : 0 ≤ sf s ↔ ¬ sf s = -1 := by
  rcases (hO s hs).1 with h | h | h | h <;> rw [h] <;> decide
theorem ag_lose (hO : OK lw ow sf sl) (a : Int32) : AGi ro m_X9_lose [.ref 0, .int a, .null] m_X10_lose [.ref 33, .int a] (tx, u, lw, ow, sf, sl, si, lt) := by
  by_cases h : 0 ≤ a ∧ a ≤ 3
  · obtain ⟨s, hs, rfl⟩ := rng' (n := 3) (by decide) h
    have hin : pm_inb (nI s) 4 = true := nI_inb (by omega) (by decide)
    have hcl : (nI s).toNatClampNeg = s := nI_clamp (by omega)
    by_cases hl : sf s = -1
    · refine ⟨-11, (tx, u, lw, ow, sf, sl, si, 1), hO, fun m _ hI k => bk_X9_lose_0 ⟨fun _ => ⟨hin, fun _ => ?_, fun q => ?_⟩, fun q => absurd (rng_iff.mpr h) q⟩, fun m _ hI k => bk_X10_lose_0 ⟨fun _ => ⟨hin, fun q => ?_, fun _ => ?_⟩, fun q => absurd h q⟩⟩
      · exact k _ ((Fr.up1 _ _ _).CT (by decide)) (IC.found hI 1)
      · rw [hcl, (hI.2.2.2.2.1 s (by omega)).1] at q
        exact absurd (not_not_intro hl) q
      · rw [hcl, (hI.2.2.2.1 s (by omega)).1, sf_ge hO.2.2 (by omega)] at q
        exact absurd hl q
      · exact k _ ((Fr.up1 _ _ _).RT (by decide)) (IR.found hI 1)
    · refine ⟨nI (sl s), (tx, u, lw, ow, upd sf s (-1), updN sl s 0, si, lt), ⟨hO.1, hO.2.1, hO.2.2.at (s := s) ⟨Or.inl (by simp [upd]), by simp [updN], fun _ => by simp [updN]⟩ (fun q hq => ⟨by simp [upd, hq], by simp [updN, hq]⟩)⟩, fun m _ hI k => bk_X9_lose_0 ⟨fun _ => ⟨hin, fun q => ?_, fun _ => ⟨hin, hin, ?_⟩⟩, fun q => absurd (rng_iff.mpr h) q⟩, fun m _ hI k => bk_X10_lose_0 ⟨fun _ => ⟨hin, fun _ => ⟨hin, hin, ?_⟩, fun q => ?_⟩, fun q => absurd h q⟩⟩
      · rw [hcl, (hI.2.2.2.2.1 s (by omega)).1] at q
        exact absurd hl q
      · rw [hcl, (hI.2.2.2.2.1 s (by omega)).2.1]
        refine k _ ?_ (IC.sheet hI (fun t t1 t2 => ?_) (SC.at (s := s) (by omega) hI.2.2.2.2.1 (fun t t1 t2 t3 t4 => ?_) ?_ ?_ (fun i hi => ?_) (fun q hq => ⟨by simp [upd, hq], by simp [updN, hq], rfl⟩)) ?_)
        · refine Fr.up (Fr.up (Fr.rf _ _) ?_ _ _) ?_ _ _ <;> (simp only [CT, List.mem_cons, List.not_mem_nil, or_false]; omega)
        · rw [up_n (by omega), up_n (by omega)]
        · rw [up_n (by omega), up_n (by omega)]
        · rw [up_tj (by decide), up_tk]; simp [upd]
        · rw [up_tk]; simp [updN]; rfl
        · simp [updN] at hi
        · rw [up_n (by omega), up_n (by omega)]; exact hI.2.2.2.2.2.1
      · rw [hcl, (hI.2.2.2.1 s (by omega)).2.1 hl]
        have hF : Fr [34] m (pm_up m 34 s (-1)) := Fr.up1 _ _ _
        refine k _ (hF.RT (by decide)) (IR.sheet hI (by rw [hF 33 (by decide)]) (hF 38 (by decide)) (hF 41 (by decide)) (hF 40 (by decide)) (SR.at (s := s) hI.2.2.2.1 ?_ (fun q hq => up_tj hq) (fun q => ?_) (fun q hq => by rw [hF 35 (by decide)]) (fun i hi => ?_) (fun q i _ _ _ => by rw [hF 36 (by decide)]) hO.2.2 (fun q hq => ⟨by simp [upd, hq], by simp [updN, hq], rfl⟩)) (by rw [hF 33 (by decide)]; exact hI.2.2.2.2))
        · rw [up_tk]; simp [upd]
        · exact absurd (by simp [upd]) q
        · simp [updN] at hi
      · rw [hcl, (hI.2.2.2.1 s (by omega)).1, sf_ge hO.2.2 (by omega)] at q
        exact absurd hl q
  · exact ⟨-2, (tx, u, lw, ow, sf, sl, si, lt), hO, fun m _ hI k => bk_X9_lose_0 ⟨fun q => absurd (rng_iff.mp q) h, fun _ => k m (Fr.rf _ _) hI⟩, fun m _ hI k => bk_X10_lose_0 ⟨fun q => absurd q h, fun _ => k m (Fr.rf _ _) hI⟩⟩
/-- what is found where item i of a SHEET is treated as of a FORM (0: nothing) -/
def fndN (sf : Nat → Int32) (sl : Nat → Nat) (s : Nat) (f i : Int32) : Int32 := if sf s = -1 then 1 else if sf s = f then (if 0 ≤ i ∧ i ≤ nI (sl s) - 1 then 0 else 2) else 3
theorem c_fnd {Q : Option Value → pm_M → Prop} {mem : pm_M} (hS : SC mem sf sl si) {s : Nat} (hs : s < 4) {f i : Int32} (k : Q (some (.int (fndN sf sl s f i))) mem) : pm_Ex ro m_X6_findingAt 0 [.ref (24 + 2 * s), .int f, .int i] [] mem Q := by
  obtain ⟨h1, h2, -⟩ := hS s hs
  unfold fndN at k
  refine bk_X6_findingAt_0 (shN hs) ?_
  rw [h1, h2]
  refine ⟨fun q => ?_, fun q => ⟨fun q2 => ?_, fun q2 => ?_⟩⟩
  · rw [if_pos (Decidable.of_not_not q)] at k; exact k
  · have q := Decidable.of_not_not q
    rw [if_neg q, if_pos q2] at k
    by_cases hc : 0 ≤ i ∧ i ≤ nI (sl s) - 1
    · rw [if_pos (rng_iff.mpr hc)]; rw [if_pos hc] at k; exact k
    · rw [if_neg (fun z => hc (rng_iff.mp z))]; rw [if_neg hc] at k; exact k
  · have q := Decidable.of_not_not q
    rw [if_neg q, if_neg q2] at k; exact k
theorem r_lacks {Q : Option Value → pm_M → Prop} {mem : pm_M} (hO : OKS sf sl) (hS : SR mem sf sl si) {s : Nat} (hs : s < 4) {f i : Int32} (k0 : fndN sf sl s f i = 0 → Q (some (.int 0)) mem) (k1 : ¬ fndN sf sl s f i = 0 → Q (some (.int (-10 - fndN sf sl s f i))) (pm_up mem 33 4 (fndN sf sl s f i))) : pm_Ex ro m_X10_lacks 0 [.ref 33, .int (nI s), .int f, .int i] [] mem Q := by
  obtain ⟨h1, h2, -⟩ := hS s hs
  have hin : pm_inb (nI s) 4 = true := nI_inb (by omega) (by decide)
  unfold fndN at k0 k1
  refine bk_X10_lacks_0 ⟨hin, ?_⟩
  rw [nI_clamp (by omega), h1]
  refine ⟨fun q => ⟨hin, fun q2 => ⟨hin, ?_⟩, fun q2 => ?_⟩, fun q => ?_⟩
  · rw [sf_ge hO hs] at q
    rw [h2 q]
    rw [if_neg q, if_pos q2] at k0 k1
    refine ⟨fun hc => ?_, fun hc => ?_⟩
    · rw [if_pos hc] at k0; exact k0 rfl
    · rw [if_neg hc] at k1; exact k1 (by decide)
  · rw [sf_ge hO hs] at q
    rw [if_neg q, if_neg q2] at k1
    exact k1 (by decide)
  · have q : sf s = -1 := Decidable.of_not_not (fun z => q ((sf_ge hO hs).mpr z))
    rw [if_pos q] at k1
    exact k1 (by decide)
theorem fnd_0 (hO : OKS sf sl) {s : Nat} (hs : s < 4) {f i : Int32} (h : fndN sf sl s f i = 0) : ∃ j, j < sl s ∧ i = nI j ∧ sf s = f := by
  unfold fndN at h
  have h60 := (hO s hs).2.1
  by_cases h1 : sf s = -1
  · rw [if_pos h1] at h; exact absurd h (by decide)
  · rw [if_neg h1] at h
    by_cases h2 : sf s = f
    · rw [if_pos h2] at h
      by_cases h3 : 0 ≤ i ∧ i ≤ nI (sl s) - 1
      · obtain ⟨j, hj, rfl⟩ := rngP (by omega) h3
        exact ⟨j, hj, rfl, h2⟩
      · rw [if_neg h3] at h; exact absurd h (by decide)
    · rw [if_neg h2] at h; exact absurd h (by decide)
theorem ag_get (hO : OK lw ow sf sl) (a f i : Int32) : AGi ro m_X9_get [.ref 0, .int a, .int f, .int i, .null] m_X10_get [.ref 33, .int a, .int f, .int i] (tx, u, lw, ow, sf, sl, si, lt) := by
  by_cases h : 0 ≤ a ∧ a ≤ 3
  · by_cases g : 0 ≤ f ∧ f ≤ 2
    · obtain ⟨s, hs, rfl⟩ := rng' (n := 3) (by decide) h
      have hin : pm_inb (nI s) 4 = true := nI_inb (by omega) (by decide)
      have hcl : (nI s).toNatClampNeg = s := nI_clamp (by omega)
      by_cases h0 : fndN sf sl s f i = 0
      · obtain ⟨j, hj, rfl, -⟩ := fnd_0 hO.2.2 (by omega) h0
        have h60 := (hO.2.2 s (by omega)).2.1
        refine ⟨si s j, (tx, u, lw, ow, sf, sl, si, lt), hO, fun m _ hI k => bk_X9_get_0 ⟨fun _ => ⟨fun _ => ⟨hin, ?_⟩, fun q => absurd (rng_iff.mpr g) q⟩, fun q => absurd (rng_iff.mpr h) q⟩, fun m _ hI k => bk_X10_get_0 ⟨fun _ => ⟨fun _ => ?_, fun q => absurd g q⟩, fun q => absurd h q⟩⟩
        · rw [hcl]
          refine c_fnd hI.2.2.2.2.1 (by omega) ?_
          refine bk_X9_get_29 ⟨fun _ => ⟨hin, nI_inb (by omega) (by decide), ?_⟩, fun q => absurd h0 q⟩
          rw [hcl, nI_clamp (by omega), (hI.2.2.2.2.1 s (by omega)).2.2 j hj]
          exact k m (Fr.rf _ _) hI
        · refine r_lacks hO.2.2 hI.2.2.2.1 (by omega) (fun _ => ?_) (fun q => absurd h0 q)
          refine bk_X10_get_26 ⟨fun _ => ?_, fun q => absurd rfl q⟩
          rw [show (60 : Int32) = nI 60 from rfl, pk_mul, nI_add, nI_clamp (by omega), (hI.2.2.2.1 s (by omega)).2.2 j hj]
          exact ⟨nI_inb (by omega) (by decide), k m (Fr.rf _ _) hI⟩
      · refine ⟨-2147483648, (tx, u, lw, ow, sf, sl, si, fndN sf sl s f i), hO, fun m _ hI k => bk_X9_get_0 ⟨fun _ => ⟨fun _ => ⟨hin, ?_⟩, fun q => absurd (rng_iff.mpr g) q⟩, fun q => absurd (rng_iff.mpr h) q⟩, fun m _ hI k => bk_X10_get_0 ⟨fun _ => ⟨fun _ => ?_, fun q => absurd g q⟩, fun q => absurd h q⟩⟩
        · rw [hcl]
          refine c_fnd hI.2.2.2.2.1 (by omega) ?_
          refine bk_X9_get_29 ⟨fun q => absurd q h0, fun _ => ?_⟩
          exact k _ ((Fr.up1 _ _ _).CT (by decide)) (IC.found hI _)
        · refine r_lacks hO.2.2 hI.2.2.2.1 (by omega) (fun q => absurd q h0) (fun _ => ?_)
          refine bk_X10_get_26 ⟨fun q => ?_, fun _ => k _ ((Fr.up1 _ _ _).RT (by decide)) (IR.found hI _)⟩
          exfalso
          unfold fndN at q
          split at q
          · exact absurd q (by decide)
          · split at q
            · split at q <;> exact absurd q (by decide)
            · exact absurd q (by decide)
    · exact ⟨-2147483648, (tx, u, lw, ow, sf, sl, si, lt), hO, fun m _ hI k => bk_X9_get_0 ⟨fun q => ⟨fun q2 => absurd (rng_iff.mp q2) g, fun _ => k m (Fr.rf _ _) hI⟩, fun _ => k m (Fr.rf _ _) hI⟩, fun m _ hI k => bk_X10_get_0 ⟨fun _ => ⟨fun q2 => absurd q2 g, fun _ => k m (Fr.rf _ _) hI⟩, fun _ => k m (Fr.rf _ _) hI⟩⟩
  · exact ⟨-2147483648, (tx, u, lw, ow, sf, sl, si, lt), hO, fun m _ hI k => bk_X9_get_0 ⟨fun q => absurd (rng_iff.mp q) h, fun _ => k m (Fr.rf _ _) hI⟩, fun m _ hI k => bk_X10_get_0 ⟨fun q => absurd q h, fun _ => k m (Fr.rf _ _) hI⟩⟩
/-- the lowest bits that an item has -/
def cutI (f v : Int32) : Int32 := if ¬ f = 0 then (if ¬ f = 1 then v else v.toInt16.toInt32 : Int32) else v.toInt8.toInt32
theorem c_put {Q : Option Value → pm_M → Prop} {mem : pm_M} (hS : SC mem sf sl si) {s : Nat} (hs : s < 4) {j : Nat} (hj : j < 60) {v : Int32} (k : Q none (pm_up mem (24 + 2 * s + 1) j (cutI (sf s) v))) : pm_Ex ro m_X6_put 0 [.ref (24 + 2 * s), .int (nI j), .int v] [] mem Q := by
  have hin : pm_inb (nI j) 60 = true := nI_inb hj (by decide)
  have hcl : (nI j).toNatClampNeg = j := nI_clamp (by omega)
  refine bk_X6_put_0 (shN hs) ?_
  rw [(hS s hs).1]
  unfold cutI at k
  by_cases h0 : sf s = 0
  · rw [if_neg (not_not_intro h0)] at k
    rw [h0]
    refine bk_X6_put_4_c0 (shN hs) ⟨hin, ?_⟩
    rw [hcl]; exact k
  · rw [if_pos h0] at k
    by_cases h1 : sf s = 1
    · rw [if_neg (not_not_intro h1)] at k
      rw [h1]
      refine bk_X6_put_4_c1 (shN hs) ⟨hin, ?_⟩
      rw [hcl]; exact k
    · rw [if_pos h1] at k
      refine bk_X6_put_4_d (shN hs) h0 h1 ⟨hin, ?_⟩
      rw [hcl]; exact k
/-- an item is put, in the class and in the reference -/
theorem IC.put {mem : pm_M} (hI : IC mem tx u lw ow sf sl si lt) {s j : Nat} (hs : s < 4) (x : Int32) : IC (pm_up mem (24 + 2 * s + 1) j x) tx u lw ow sf sl (pm_upR si s (upd (si s) j x)) lt := by
  refine hI.sheet (fun t t1 t2 => up_n (by omega)) (SC.at (s := s) hs hI.2.2.2.2.1 (fun t t1 t2 t3 t4 => up_n (by omega)) ?_ ?_ (fun i hi => ?_) (fun q hq => ⟨rfl, rfl, by rw [upR_n hq]⟩)) ?_
  · rw [up_n (by omega)]; exact (hI.2.2.2.2.1 s hs).1
  · rw [up_n (by omega)]; exact (hI.2.2.2.2.1 s hs).2.1
  · rw [up_t, upR_t]
    simp only [upd]
    split
    · rfl
    · exact (hI.2.2.2.2.1 s hs).2.2 i hi
  · rw [up_n (by omega)]; exact hI.2.2.2.2.2.1
theorem IR.put {mem : pm_M} (hO : OKS sf sl) (hI : IR mem tx u lw ow sf sl si lt) {s j : Nat} (hs : s < 4) (hj : j < 60) (x : Int32) : IR (pm_up mem 36 (60 * s + j) x) tx u lw ow sf sl (pm_upR si s (upd (si s) j x)) lt := by
  have hF : Fr [36] mem (pm_up mem 36 (60 * s + j) x) := Fr.up1 _ _ _
  refine hI.sheet (by rw [hF 33 (by decide)]) (hF 38 (by decide)) (hF 41 (by decide)) (hF 40 (by decide)) (SR.at (s := s) hI.2.2.2.1 ?_ (fun q _ => by rw [hF 34 (by decide)]) (fun q => ?_) (fun q _ => by rw [hF 35 (by decide)]) (fun i hi => ?_) (fun q i h4 h5 h6 => ?_) hO (fun q hq => ⟨rfl, rfl, by rw [upR_n hq]⟩)) (by rw [hF 33 (by decide)]; exact hI.2.2.2.2)
  · rw [hF 34 (by decide)]; exact (hI.2.2.2.1 s hs).1
  · rw [hF 35 (by decide)]; exact (hI.2.2.2.1 s hs).2.1 q
  · rw [up_t, upR_t]
    simp only [upd]
    by_cases hij : i = j
    · rw [if_pos (by omega), if_pos hij]
    · rw [if_neg (by omega), if_neg hij]
      exact (hI.2.2.2.1 s hs).2.2 i hi
  · exact up_tj (by omega)
theorem ag_lay (hO : OK lw ow sf sl) (a f i v : Int32) : AGi ro m_X9_lay [.ref 0, .int a, .int f, .int i, .int v, .null] m_X10_lay [.ref 33, .int a, .int f, .int i, .int v, .null] (tx, u, lw, ow, sf, sl, si, lt) := by
  by_cases h : 0 ≤ a ∧ a ≤ 3
  · by_cases g : 0 ≤ f ∧ f ≤ 2
    · obtain ⟨s, hs, rfl⟩ := rng' (n := 3) (by decide) h
      have hin : pm_inb (nI s) 4 = true := nI_inb (by omega) (by decide)
      have hcl : (nI s).toNatClampNeg = s := nI_clamp (by omega)
      by_cases h0 : fndN sf sl s f i = 0
      · obtain ⟨j, hj, rfl, hf⟩ := fnd_0 hO.2.2 (by omega) h0
        have h60 := (hO.2.2 s (by omega)).2.1
        refine ⟨1, (tx, u, lw, ow, sf, sl, pm_upR si s (upd (si s) j (cutI f v)), lt), hO, fun m _ hI k => bk_X9_lay_0 ⟨fun _ => ⟨fun _ => ⟨hin, ?_⟩, fun q => absurd (rng_iff.mpr g) q⟩, fun q => absurd (rng_iff.mpr h) q⟩, fun m _ hI k => bk_X10_lay_0 ⟨fun _ => ⟨fun _ => ?_, fun q => absurd g q⟩, fun q => absurd h q⟩⟩
        · rw [hcl]
          refine c_fnd hI.2.2.2.2.1 (by omega) ?_
          refine bk_X9_lay_28 ⟨fun _ => ⟨hin, ?_⟩, fun q => absurd h0 q⟩
          rw [hcl]
          refine c_put hI.2.2.2.2.1 (by omega) (by omega) ?_
          refine bk_X9_lay_54 ?_
          dsimp only
          rw [hf]
          refine k _ ?_ (IC.put hI (by omega) _)
          refine Fr.up (Fr.rf _ _) ?_ _ _
          simp only [CT, List.mem_cons, List.not_mem_nil, or_false]; omega
        · refine r_lacks hO.2.2 hI.2.2.2.1 (by omega) (fun _ => ?_) (fun q => absurd h0 q)
          refine bk_X10_lay_29 ⟨fun _ => ?_, fun q => absurd rfl q⟩
          rw [show (60 : Int32) = nI 60 from rfl, pk_mul, nI_add, nI_clamp (by omega)]
          exact ⟨nI_inb (by omega) (by decide), k _ ((Fr.up1 _ _ _).RT (by decide)) (IR.put hO.2.2 hI (by omega) (by omega) _)⟩
      · refine ⟨-10 - fndN sf sl s f i, (tx, u, lw, ow, sf, sl, si, fndN sf sl s f i), hO, fun m _ hI k => bk_X9_lay_0 ⟨fun _ => ⟨fun _ => ⟨hin, ?_⟩, fun q => absurd (rng_iff.mpr g) q⟩, fun q => absurd (rng_iff.mpr h) q⟩, fun m _ hI k => bk_X10_lay_0 ⟨fun _ => ⟨fun _ => ?_, fun q => absurd g q⟩, fun q => absurd h q⟩⟩
        · rw [hcl]
          refine c_fnd hI.2.2.2.2.1 (by omega) ?_
          refine bk_X9_lay_28 ⟨fun q => absurd q h0, fun _ => ?_⟩
          exact k _ ((Fr.up1 _ _ _).CT (by decide)) (IC.found hI _)
        · refine r_lacks hO.2.2 hI.2.2.2.1 (by omega) (fun q => absurd q h0) (fun _ => ?_)
          refine bk_X10_lay_29 ⟨fun q => ?_, fun _ => k _ ((Fr.up1 _ _ _).RT (by decide)) (IR.found hI _)⟩
          exfalso
          unfold fndN at q
          split at q
          · exact absurd q (by decide)
          · split at q
            · split at q <;> exact absurd q (by decide)
            · exact absurd q (by decide)
    · exact ⟨-2, (tx, u, lw, ow, sf, sl, si, lt), hO, fun m _ hI k => bk_X9_lay_0 ⟨fun q => ⟨fun q2 => absurd (rng_iff.mp q2) g, fun _ => k m (Fr.rf _ _) hI⟩, fun _ => k m (Fr.rf _ _) hI⟩, fun m _ hI k => bk_X10_lay_0 ⟨fun _ => ⟨fun q2 => absurd q2 g, fun _ => k m (Fr.rf _ _) hI⟩, fun _ => k m (Fr.rf _ _) hI⟩⟩
  · exact ⟨-2, (tx, u, lw, ow, sf, sl, si, lt), hO, fun m _ hI k => bk_X9_lay_0 ⟨fun q => absurd (rng_iff.mp q) h, fun _ => k m (Fr.rf _ _) hI⟩, fun m _ hI k => bk_X10_lay_0 ⟨fun q => absurd q h, fun _ => k m (Fr.rf _ _) hI⟩⟩
end AG1
