/-! SHEETS: sheet, lose, lay, get -/
theorem upR_t (mem : pm_M) (t : Nat) (f : Nat → Int32) : pm_upR mem t f t = f := by simp [pm_upR]
theorem upR_n {mem : pm_M} {t q : Nat} {f : Nat → Int32} (h : q ≠ t) : pm_upR mem t f q = mem q := by simp [pm_upR, h]
theorem Fr.upR {T : List Nat} {a b : pm_M} (h : Fr T a b) {t : Nat} (ht : t ∈ T) (f : Nat → Int32) : Fr T a (pm_upR b t f) := fun q hq => by
  have : q ≠ t := fun e => hq (e ▸ ht)
  rw [upR_n this]
  exact h q hq
section SHT
variable {ro : pm_RO} {Q : Option Value → pm_M → Prop} {mem mem' : pm_M} {tx : Nat → Nat} {u : Nat} {lw ow : Nat → Nat} {sf sf' : Nat → Int32} {sl sl' : Nat → Nat} {si si' : Nat → Nat → Int32} {lt lt' : Int32}
theorem sp_fill_5 {T nT : Nat} (hT : pm_lay[T]? = some (.inl nT)) (hn : nT < 2 ^ 31) {v : Int32} (k : Q none (pm_upR mem T (fun j => if j < nT then v else mem T j))) : ∀ (c i : Nat), i + c = nT → pm_Ex ro m_J7_fill_53178 5 [.ref T, .int v, .int (nI i), .int (Int32.ofNat nT)] [] (pm_upR mem T (fun j => if j < i then v else mem T j)) Q := by
  intro c
  induction c with
  | zero =>
    intro i hi
    have : i = nT := by omega
    subst this
    refine bk_J7_fill_53178_5 hT ⟨fun _ => k, fun q => absurd ?_ q⟩
    exact nI_le (Nat.le_refl _) hn
  | succ c ih =>
    intro i hi
    refine bk_J7_fill_53178_5 hT ⟨fun q => ?_, fun _ => ⟨nI_inb (by omega) hn, ?_⟩⟩
    · have q : nI nT ≤ nI i := q
      rw [nI_leI hn (by omega)] at q
      omega
    have e : pm_up (pm_upR mem T (fun j => if j < i then v else mem T j)) T (nI i).toNatClampNeg v = pm_upR mem T (fun j => if j < i + 1 then v else mem T j) := by
      funext q
      by_cases hq : q = T
      · subst hq
        rw [up_t, upR_t, upR_t, nI_clamp (by omega)]
        funext j
        simp only [upd]
        by_cases h1 : j = i
        · rw [if_pos h1, if_pos (by omega)]
        · rw [if_neg h1]
          by_cases h2 : j < i
          · rw [if_pos h2, if_pos (by omega)]
          · rw [if_neg h2, if_neg (by omega)]
      · rw [up_n hq, upR_n hq, upR_n hq]
    rw [e, nI_1]
    exact ih (i + 1) (by omega)
theorem sp_fill {T nT : Nat} (hT : pm_lay[T]? = some (.inl nT)) (hn : nT < 2 ^ 31) {v : Int32} (k : Q none (pm_upR mem T (fun j => if j < nT then v else mem T j))) : pm_Ex ro m_J7_fill_53178 0 [.ref T, .int v, .null, .null] [] mem Q := by
  refine bk_J7_fill_53178_0 hT ?_
  have := sp_fill_5 (ro := ro) hT hn k nT 0 (Nat.zero_add _)
  have e : pm_upR mem T (fun j => if j < 0 then v else mem T j) = mem := by
    funext q
    by_cases hq : q = T
    · subst hq; rw [upR_t]; funext j; simp
    · rw [upR_n hq]
  rw [e] at this
  exact this
theorem shN {s : Nat} (hs : s < 4) : pm_isSh (24 + 2 * s) := by unfold pm_isSh; omega
theorem SC.at {s : Nat} (hs : s < 4) (h : SC mem sf sl si) (hF : ∀ t, 24 ≤ t → t ≤ 31 → t ≠ 24 + 2 * s → t ≠ 24 + 2 * s + 1 → mem' t = mem t) (h1 : mem' (24 + 2 * s) 1 = sf' s) (h2 : mem' (24 + 2 * s) 2 = nI (sl' s)) (h3 : ∀ j, j < sl' s → mem' (24 + 2 * s + 1) j = si' s j) (e : ∀ q, q ≠ s → sf' q = sf q ∧ sl' q = sl q ∧ si' q = si q) : SC mem' sf' sl' si' := by
  intro q hq
  by_cases hqs : q = s
  · subst hqs; exact ⟨h1, h2, h3⟩
  · obtain ⟨e1, e2, e3⟩ := e q hqs
    rw [e1, e2, e3, hF (24 + 2 * q) (by omega) (by omega) (by omega) (by omega), hF (24 + 2 * q + 1) (by omega) (by omega) (by omega) (by omega)]
    exact h q hq
theorem SR.at {s : Nat} (h : SR mem sf sl si) (h34 : mem' 34 s = sf' s) (h34' : ∀ q, q ≠ s → mem' 34 q = mem 34 q) (h35 : ¬ sf' s = -1 → mem' 35 s = nI (sl' s)) (h35' : ∀ q, q ≠ s → mem' 35 q = mem 35 q) (h36 : ∀ j, j < sl' s → mem' 36 (60 * s + j) = si' s j) (h36' : ∀ q j, q ≠ s → q < 4 → j < 60 → mem' 36 (60 * q + j) = mem 36 (60 * q + j)) (hO : OKS sf sl) (e : ∀ q, q ≠ s → sf' q = sf q ∧ sl' q = sl q ∧ si' q = si q) : SR mem' sf' sl' si' := by
  intro q hq
  by_cases hqs : q = s
  · subst hqs; exact ⟨h34, h35, h36⟩
  · obtain ⟨e1, e2, e3⟩ := e q hqs
    rw [e1, e2, e3, h34' q hqs, h35' q hqs]
    refine ⟨(h q hq).1, (h q hq).2.1, fun j hj => ?_⟩
    rw [h36' q j hqs hq (by have := (hO q hq).2.1; omega)]
    exact (h q hq).2.2 j hj
theorem OKS.at {s : Nat} (h : OKS sf sl) (h1 : (sf' s = -1 ∨ sf' s = 0 ∨ sf' s = 1 ∨ sf' s = 2) ∧ sl' s ≤ 60 ∧ (sf' s = -1 → sl' s = 0)) (e : ∀ q, q ≠ s → sf' q = sf q ∧ sl' q = sl q) : OKS sf' sl' := by
  intro q hq
  by_cases hqs : q = s
  · subst hqs; exact h1
  · rw [(e q hqs).1, (e q hqs).2]; exact h q hq
/-- only the latest FINDING and the SHEETS differ -/
theorem IC.sheet (hI : IC mem tx u lw ow sf sl si lt) (e : ∀ t, t < 24 → t ≠ 0 → mem' t = mem t) (hS : SC mem' sf' sl' si') (h0 : mem' 0 10 = lt') : IC mem' tx u lw ow sf' sl' si' lt' := by
  obtain ⟨h1, h2, h3, h4, h5, h6, h7, h8⟩ := hI
  exact ⟨h1.fr (congrFun (e 3 (by decide) (by decide)) 2) (e 4 (by decide) (by decide)), h2.fr (e 3 (by decide) (by decide)) (e 5 (by decide) (by decide)), h3.fr (e 2 (by decide) (by decide)), h4.fr (e 12 (by decide) (by decide)), hS, h0, h7.fr (e 6 (by decide) (by decide)) (e 7 (by decide) (by decide)) (e 8 (by decide) (by decide)), h8.fr (e 15 (by decide) (by decide)) (e 16 (by decide) (by decide))⟩
theorem IC.found (hI : IC mem tx u lw ow sf sl si lt) (x : Int32) : IC (pm_up mem 0 10 x) tx u lw ow sf sl si x :=
  hI.sheet (fun t _ h => up_n h) (hI.2.2.2.2.1.fr (fun t h _ => up_n (by omega))) (up_tk _ _ _ _)
theorem IR.sheet (hI : IR mem tx u lw ow sf sl si lt) (e6 : mem' 33 6 = mem 33 6) (e38 : mem' 38 = mem 38) (e41 : mem' 41 = mem 41) (e40 : mem' 40 = mem 40) (hS : SR mem' sf' sl' si') (h0 : mem' 33 4 = lt') : IR mem' tx u lw ow sf' sl' si' lt' := by
  obtain ⟨h1, h2, h3, h4, h5⟩ := hI
  exact ⟨h1.fr e6 e38, h2.fr e41, h3.fr e40, hS, h0⟩
theorem IR.found (hI : IR mem tx u lw ow sf sl si lt) (x : Int32) : IR (pm_up mem 33 4 x) tx u lw ow sf sl si x :=
  hI.sheet (up_tj (by decide)) (up_n (by decide)) (up_n (by decide)) (up_n (by decide)) (hI.2.2.2.1.fr (up_n (by decide)) (up_n (by decide)) (up_n (by decide))) (up_tk _ _ _ _)
/-- sheet() -/
def shtB (a f n : Int32) : Prop := (0 ≤ a ∧ a ≤ 3) ∧ (0 ≤ f ∧ f ≤ 2) ∧ n ≤ 60
noncomputable def shtA (a f n : Int32) : Int32 := @ite _ (shtB a f n) (Classical.propDecidable _) (if 0 ≤ n then n else -15) (-2)
noncomputable def shtF (sf : Nat → Int32) (a f n : Int32) : Nat → Int32 := @ite _ (shtB a f n ∧ 0 ≤ n) (Classical.propDecidable _) (upd sf a.toNatClampNeg f) sf
noncomputable def shtL (sl : Nat → Nat) (a f n : Int32) : Nat → Nat := @ite _ (shtB a f n ∧ 0 ≤ n) (Classical.propDecidable _) (updN sl a.toNatClampNeg n.toNatClampNeg) sl
noncomputable def shtI (si : Nat → Nat → Int32) (a f n : Int32) : Nat → Nat → Int32 := @ite _ (shtB a f n ∧ 0 ≤ n) (Classical.propDecidable _) (pm_upR si a.toNatClampNeg (fun _ => 0)) si
noncomputable def shtT (lt a f n : Int32) : Int32 := @ite _ (shtB a f n ∧ ¬ 0 ≤ n) (Classical.propDecidable _) 5 lt
theorem sht_bad {a f n : Int32} (h : ¬ shtB a f n) : shtA a f n = -2 ∧ shtF sf a f n = sf ∧ shtL sl a f n = sl ∧ shtI si a f n = si ∧ shtT lt a f n = lt := by
  refine ⟨if_neg h, if_neg (fun q => h q.1), if_neg (fun q => h q.1), if_neg (fun q => h q.1), if_neg (fun q => h q.1)⟩
theorem sht_neg {a f n : Int32} (h : shtB a f n) (hn : ¬ 0 ≤ n) : shtA a f n = -15 ∧ shtF sf a f n = sf ∧ shtL sl a f n = sl ∧ shtI si a f n = si ∧ shtT lt a f n = 5 := by
  refine ⟨(if_pos h).trans (if_neg hn), if_neg (fun q => hn q.2), if_neg (fun q => hn q.2), if_neg (fun q => hn q.2), if_pos ⟨h, hn⟩⟩
theorem sht_pos {a f n : Int32} (h : shtB a f n) (hn : 0 ≤ n) : shtA a f n = n ∧ shtF sf a f n = upd sf a.toNatClampNeg f ∧ shtL sl a f n = updN sl a.toNatClampNeg n.toNatClampNeg ∧ shtI si a f n = pm_upR si a.toNatClampNeg (fun _ => 0) ∧ shtT lt a f n = lt := by
  refine ⟨(if_pos h).trans (if_pos hn), if_pos ⟨h, hn⟩, if_pos ⟨h, hn⟩, if_pos ⟨h, hn⟩, if_neg (fun q => q.2 hn)⟩
theorem form_012 {f : Int32} (h : 0 ≤ f ∧ f ≤ 2) : f = 0 ∨ f = 1 ∨ f = 2 := by
  obtain ⟨i, hi, rfl⟩ := rng' (n := 2) (by decide) h
  rcases (show i = 0 ∨ i = 1 ∨ i = 2 by omega) with rfl | rfl | rfl
  · exact Or.inl rfl
  · exact Or.inr (Or.inl rfl)
  · exact Or.inr (Or.inr rfl)
theorem sht_ok (hO : OKS sf sl) (a f n : Int32) : OKS (shtF sf a f n) (shtL sl a f n) := by
  by_cases h : shtB a f n
  · by_cases hn : 0 ≤ n
    · obtain ⟨-, e2, e3, -, -⟩ := sht_pos (sf := sf) (sl := sl) (si := fun _ _ => 0) (lt := 0) h hn
      rw [e2, e3]
      obtain ⟨i, hi, e⟩ := rng' (n := 60) (by decide) ⟨hn, h.2.2⟩
      refine hO.at (s := a.toNatClampNeg) ⟨?_, ?_, ?_⟩ (fun q hq => ⟨by simp [upd, hq], by simp [updN, hq]⟩)
      · simp only [upd, if_pos]
        exact Or.inr (form_012 h.2.1)
      · simp only [updN, if_pos]
        rw [e, nI_clamp (by omega)]; omega
      · simp only [upd, if_pos]
        intro q
        rcases form_012 h.2.1 with z | z | z <;> rw [z] at q <;> exact absurd q (by decide)
    · obtain ⟨-, e2, e3, -, -⟩ := sht_neg (sf := sf) (sl := sl) (si := fun _ _ => 0) (lt := 0) h hn
      rw [e2, e3]; exact hO
  · obtain ⟨-, e2, e3, -, -⟩ := sht_bad (sf := sf) (sl := sl) (si := fun _ _ => 0) (lt := 0) h
    rw [e2, e3]; exact hO
theorem c_sheet (hI : IC mem tx u lw ow sf sl si lt) {a f n : Int32} (k : ∀ mem' : pm_M, Fr CT mem mem' → IC mem' tx u lw ow (shtF sf a f n) (shtL sl a f n) (shtI si a f n) (shtT lt a f n) → Q (some (.int (shtA a f n))) mem') : pm_Ex ro m_X9_sheet 0 [.ref 0, .int a, .int f, .int n] [] mem Q := by
  have bad : ¬ shtB a f n → Q (some (.int (-2))) mem := fun h => by
    obtain ⟨e1, e2, e3, e4, e5⟩ := sht_bad (sf := sf) (sl := sl) (si := si) (lt := lt) h
    rw [e1, e2, e3, e4, e5] at k
    exact k mem (Fr.rf _ _) hI
  refine bk_X9_sheet_0 ⟨fun h => ⟨fun g => ⟨fun m => ⟨fun p => ?_, fun p => ?_⟩, fun m => bad (fun q => m q.2.2)⟩, fun g => bad (fun q => g (rng_iff.mpr q.2.1))⟩, fun h => bad (fun q => h (rng_iff.mpr q.1))⟩
  · have hB : shtB a f n := ⟨rng_iff.mp h, rng_iff.mp g, m⟩
    obtain ⟨e1, e2, e3, e4, e5⟩ := sht_pos (sf := sf) (sl := sl) (si := si) (lt := lt) hB p
    rw [e1, e2, e3, e4, e5] at k
    obtain ⟨s, hs, rfl⟩ := rng (n := 3) (by decide) h
    obtain ⟨j, hj, rfl⟩ := rng' (n := 60) (by decide) ⟨p, m⟩
    rw [nI_clamp (by omega), nI_clamp (by omega)] at k
    refine ⟨nI_inb (by omega) (by decide), ?_⟩
    rw [nI_clamp (by omega)]
    refine bk_X6_renew_0 (shN (by omega)) ?_
    refine sp_fill (pm_shi (shN (by omega))) (by decide) ?_
    refine bk_X6_renew_18 (shN (by omega)) ?_
    refine bk_X9_sheet_44 ?_
    have ne : (24 + 2 * s) ≠ 24 + 2 * s + 1 := by omega
    refine k _ ?_ (hI.sheet (fun t t1 t2 => ?_) (SC.at (s := s) (by omega) hI.2.2.2.2.1 (fun t t1 t2 t3 t4 => ?_) ?_ ?_ (fun i hi => ?_) (fun q hq => ⟨by simp [upd, hq], by simp [updN, hq], by rw [upR_n hq]⟩)) ?_)
    · refine Fr.upR (Fr.up (Fr.up (Fr.rf _ _) ?_ _ _) ?_ _ _) ?_ _ <;> (simp only [CT, List.mem_cons, List.not_mem_nil, or_false]; omega)
    · rw [upR_n (by omega), up_n (by omega), up_n (by omega)]
    · rw [upR_n (by omega), up_n (by omega), up_n (by omega)]
    · rw [upR_n ne, up_tj (by decide), up_tk]; simp [upd]
    · rw [upR_n ne, up_tk]; simp [updN]
    · rw [upR_t, upR_t]
      simp only [updN, if_pos] at hi
      rw [if_pos (by omega)]
    · rw [upR_n (by omega), up_n (by omega), up_n (by omega)]
      exact hI.2.2.2.2.2.1
  · have hB : shtB a f n := ⟨rng_iff.mp h, rng_iff.mp g, m⟩
    obtain ⟨e1, e2, e3, e4, e5⟩ := sht_neg (sf := sf) (sl := sl) (si := si) (lt := lt) hB p
    rw [e1, e2, e3, e4, e5] at k
    exact k _ ((Fr.up1 _ _ _).CT (by decide)) (hI.found 5)
theorem r_sheet_55 {s n : Nat} (hs : s < 4) (hn : n ≤ 60) {f : Int32} {m0 : pm_M} (k : ∀ mem' : pm_M, Fr [36] m0 mem' → (∀ j, j < n → mem' 36 (60 * s + j) = 0) → (∀ q j, q ≠ s → q < 4 → j < 60 → mem' 36 (60 * q + j) = m0 36 (60 * q + j)) → Q (some (.int (nI n))) mem') : ∀ (c i : Nat) (mem : pm_M), i + c = n → Fr [36] m0 mem → (∀ j, j < i → mem 36 (60 * s + j) = 0) → (∀ q j, q ≠ s → q < 4 → j < 60 → mem 36 (60 * q + j) = m0 36 (60 * q + j)) → pm_Ex ro m_X10_sheet 55 [.ref 33, .int (nI s), .int f, .int (nI n), .int (nI i)] [] mem Q := by
  intro c
  induction c with
  | zero =>
    intro i mem hi h1 h2 h3
    have : i = n := by omega
    subst this
    exact bk_X10_sheet_55 ⟨fun _ => k mem h1 h2 h3, fun q => absurd (nI_le (Nat.le_refl _) (by omega)) q⟩
  | succ c ih =>
    intro i mem hi h1 h2 h3
    refine bk_X10_sheet_55 ⟨fun q => ?_, fun _ => ?_⟩
    · rw [nI_leI (by omega) (by omega)] at q; omega
    rw [show (60 : Int32) = nI 60 from rfl, pk_mul, nI_add, nI_clamp (by omega), nI_1]
    refine ⟨nI_inb (by omega) (by decide), ih (i + 1) _ (by omega) (h1.up (by decide) _ _) (fun j hj => ?_) (fun q j h4 h5 h6 => ?_)⟩
    · rw [up_t]
      simp only [upd]
      split
      · rfl
      · exact h2 j (by omega)
    · rw [up_tj (by omega)]; exact h3 q j h4 h5 h6
theorem r_sheet (hO : OKS sf sl) (hI : IR mem tx u lw ow sf sl si lt) {a f n : Int32} (k : ∀ mem' : pm_M, Fr RT mem mem' → IR mem' tx u lw ow (shtF sf a f n) (shtL sl a f n) (shtI si a f n) (shtT lt a f n) → Q (some (.int (shtA a f n))) mem') : pm_Ex ro m_X10_sheet 0 [.ref 33, .int a, .int f, .int n, .null] [] mem Q := by
  have bad : ¬ shtB a f n → Q (some (.int (-2))) mem := fun h => by
    obtain ⟨e1, e2, e3, e4, e5⟩ := sht_bad (sf := sf) (sl := sl) (si := si) (lt := lt) h
    rw [e1, e2, e3, e4, e5] at k
    exact k mem (Fr.rf _ _) hI
  refine bk_X10_sheet_0 ⟨fun h => ⟨fun g => ⟨fun m => ⟨fun p => ?_, fun p => ?_⟩, fun m => bad (fun q => m q.2.2)⟩, fun g => bad (fun q => g q.2.1)⟩, fun h => bad (fun q => h q.1)⟩
  · have hB : shtB a f n := ⟨h, g, m⟩
    obtain ⟨e1, e2, e3, e4, e5⟩ := sht_pos (sf := sf) (sl := sl) (si := si) (lt := lt) hB p
    rw [e1, e2, e3, e4, e5] at k
    obtain ⟨s, hs, rfl⟩ := rng' (n := 3) (by decide) h
    obtain ⟨j, hj, rfl⟩ := rng' (n := 60) (by decide) ⟨p, m⟩
    rw [nI_clamp (by omega), nI_clamp (by omega)] at k
    refine ⟨nI_inb (by omega) (by decide), nI_inb (by omega) (by decide), ?_⟩
    rw [nI_clamp (by omega)]
    refine r_sheet_55 (s := s) (n := j) (by omega) (by omega) (fun m1 f1 f2 f3 => ?_) j 0 _ (Nat.zero_add _) (Fr.rf _ _) (fun i hi => by omega) (fun _ _ _ _ _ => rfl)
    have hF : Fr [34, 35, 36] mem m1 := (((Fr.rf _ _).up (by decide) _ _).up (by decide) _ _).tr (f1.sub (by decide))
    refine k m1 (hF.RT (by decide)) (hI.sheet (by rw [hF 33 (by decide)]) (hF 38 (by decide)) (hF 41 (by decide)) (hF 40 (by decide)) (SR.at (s := s) hI.2.2.2.1 ?_ (fun q hq => ?_) (fun _ => ?_) (fun q hq => ?_) (fun i hi => ?_) (fun q i h4 h5 h6 => ?_) hO (fun q hq => ⟨by simp [upd, hq], by simp [updN, hq], by rw [upR_n hq]⟩)) (by rw [hF 33 (by decide)]; exact hI.2.2.2.2))
    · rw [f1 34 (by decide), up_n (by decide), up_tk]; simp [upd]
    · rw [f1 34 (by decide), up_n (by decide), up_tj hq]
    · rw [f1 35 (by decide), up_tk]; simp [updN]
    · rw [f1 35 (by decide), up_tj hq, up_n (by decide)]
    · simp only [updN, if_pos] at hi
      rw [upR_t, f2 i hi]
    · rw [f3 q i h4 h5 h6, up_n (by decide), up_n (by decide)]
  · have hB : shtB a f n := ⟨h, g, m⟩
    obtain ⟨e1, e2, e3, e4, e5⟩ := sht_neg (sf := sf) (sl := sl) (si := si) (lt := lt) hB p
    rw [e1, e2, e3, e4, e5] at k
    exact k _ ((Fr.up1 _ _ _).RT (by decide)) (hI.found 5)
end SHT
