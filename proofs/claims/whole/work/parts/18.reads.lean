/-! the GOODS, read by the reference -/
section GR
variable {ro : pm_RO} {Q : Option Value → pm_M → Prop} {tx : Nat → Nat} {u : Nat}
/-- the reference's text -/
def TR (mem : pm_M) (tx : Nat → Nat) (u : Nat) : Prop := u ≤ 50 ∧ mem 33 6 = nI u ∧ (∀ j, j < u → mem 38 j = nI (tx j)) ∧ ∀ j, j < u → tx j < 256
theorem TR.fr {mem mem' : pm_M} (h : TR mem tx u) (h2 : mem' 33 6 = mem 33 6) (h4 : mem' 38 = mem 38) : TR mem' tx u := ⟨h.1, by rw [h2]; exact h.2.1, by rw [h4]; exact h.2.2.1, h.2.2.2⟩
/-- only 'at', 'goods', 'wanted' may differ in the reference's own fields -/
def S33 (mem mem' : pm_M) : Prop := ∀ j, j ≠ 7 → j ≠ 8 → j ≠ 10 → mem' 33 j = mem 33 j
theorem S33.rf (mem : pm_M) : S33 mem mem := fun _ _ _ _ => rfl
theorem S33.tr {a b c : pm_M} (h1 : S33 a b) (h2 : S33 b c) : S33 a c := fun j p q r => (h2 j p q r).trans (h1 j p q r)
theorem S33.u7 {a b : pm_M} (h : S33 a b) (x : Int32) : S33 a (pm_up b 33 7 x) := fun j p q r => by rw [up_tj p]; exact h j p q r
theorem S33.u8 {a b : pm_M} (h : S33 a b) (x : Int32) : S33 a (pm_up b 33 8 x) := fun j p q r => by rw [up_tj q]; exact h j p q r
theorem S33.u10 {a b : pm_M} (h : S33 a b) (x : Int32) : S33 a (pm_up b 33 10 x) := fun j p q r => by rw [up_tj r]; exact h j p q r
theorem S33.un {a b : pm_M} (h : S33 a b) {t : Nat} (ht : 33 ≠ t) (k : Nat) (x : Int32) : S33 a (pm_up b t k x) := fun j p q r => by rw [up_n ht]; exact h j p q r
theorem sp_here {mem : pm_M} (h : TR mem tx u) {i : Nat} (hi : i < 2 ^ 20) (h7 : mem 33 7 = nI i) (k : Q (some (.int (btI tx u i))) mem) : pm_Ex ro m_X10_here 0 [.ref 33] [] mem Q := by
  obtain ⟨hu, h2, h4, -⟩ := h
  refine bk_X10_here_0 ⟨fun q => ?_, fun q => ?_⟩
  · rw [h2, h7, nI_leI (by omega) (by omega)] at q
    simp only [btI] at k
    rw [if_neg (by omega)] at k
    exact k
  · rw [h2, h7, nI_leI (by omega) (by omega)] at q
    simp only [btI] at k
    rw [if_pos (by omega)] at k
    rw [h7]
    refine ⟨nI_inb (by omega) (by decide), ?_⟩
    rw [nI_clamp (by omega), h4 i (by omega)]
    exact k
theorem btI_dg2 {tx : Nat → Nat} {u : Nat} (htx : ∀ j, j < u → tx j < 256) (i : Nat) : ((48 : Int32) ≤ btI tx u i ∧ btI tx u i ≤ 57) ↔ dg (bt tx u i) = true := by
  rw [← btI_dg htx i, Int32.le_iff_toInt_le, Int32.le_iff_toInt_le, Int32.lt_iff_toInt_lt, Int32.lt_iff_toInt_lt]
  omega
theorem sp_rp_18 {s0 : Nat} (hs0 : s0 < 2 ^ 18) : ∀ (m s v : Nat) (mem : pm_M), TR mem tx u → s + m = s0 + 3 → mem 33 7 = nI s →
    (∀ mem' : pm_M, Fr [33] mem mem' → (∀ j, j ≠ 7 → mem' 33 j = mem 33 j) → mem' 33 7 = nI (scan tx u m s v).1 → ((¬ nI (scan tx u m s v).2 = 0 → pm_Ex ro m_X10_here 0 [.ref 33] [] mem' (fun x m' => pm_Ex ro m_X10_readsPart 86 [.ref 33, .int (nI s0), .int (nI (scan tx u m s v).2)] (x.toList ++ []) m' Q)) ∧ (¬ (¬ nI (scan tx u m s v).2 = 0) → Q (some (.int 0)) (pm_up mem' 33 7 (nI s0))))) →
    pm_Ex ro m_X10_readsPart 18 [.ref 33, .int (nI s0), .int (nI v)] [] mem Q := by
  intro m
  induction m with
  | zero =>
    intro s v mem hT h1 h7 k
    have k := k mem (Fr.rf _ _) (fun _ _ => rfl) h7
    refine bk_X10_readsPart_18 ⟨fun _ => k, fun q => ?_⟩
    rw [h7, show (3 : Int32) = nI 3 from rfl, nI_add, nI_leI (by omega) (by omega)] at q
    omega
  | succ m ih =>
    intro s v mem hT h1 h7 k
    refine bk_X10_readsPart_18 ⟨fun q => ?_, fun q => ?_⟩
    · rw [h7, show (3 : Int32) = nI 3 from rfl, nI_add, nI_leI (by omega) (by omega)] at q
      omega
    refine sp_here hT (by omega) h7 ?_
    have hdg := btI_dg2 hT.2.2.2 s
    cases hd : dg (bt tx u s) with
    | false =>
      simp only [scan, hd, cond_false] at k
      rw [hd] at hdg
      refine bk_X10_readsPart_32 ⟨fun q => absurd (hdg.mp q) (by decide), fun _ => ?_⟩
      exact k mem (Fr.rf _ _) (fun _ _ => rfl) h7
    | true =>
      simp only [scan, hd, cond_true] at k
      refine bk_X10_readsPart_32 ⟨fun _ => ?_, fun q => absurd (hdg.mpr hd) q⟩
      refine sp_here hT (by omega) h7 ?_
      refine bk_X10_readsPart_53 ?_
      obtain ⟨b1, b2, b3, b4⟩ := btI_d hd
      rw [b1, show (10 : Int32) = nI 10 from rfl, pk_mul, Nat.mul_comm 10 v, nI_fig b2, h7, nI_1]
      refine ih (s + 1) _ _ (hT.fr (up_tj (by decide)) (up_n (by decide))) (by omega) (up_tk _ _ _ _) (fun mem' f1 f2 f3 => ?_)
      refine k mem' (((Fr.rf _ _).up (by decide) _ _).tr f1) (fun j hj => ?_) f3
      rw [f2 j hj, up_tj hj]
set_option maxHeartbeats 1000000 in
/-- one of the GOODS -/
theorem sp_rp {mem : pm_M} {g s w : Nat} {p : Nat → Nat} (hT : TR mem tx u) (hg : g < 8) (hs : s ≤ u) (hw : w < 2 ^ g) (h7 : mem 33 7 = nI s) (h8 : mem 33 8 = nI g) (h10 : mem 33 10 = nI w) (h39 : ∀ j, j < g → mem 39 j = nI (p j))
    (k0 : (scan tx u 3 s 0).2 = 0 → ∀ mem' : pm_M, Fr [33, 39] mem mem' → S33 mem mem' → mem' 33 7 = nI s → Q (some (.int 0)) mem')
    (k1 : ¬ (scan tx u 3 s 0).2 = 0 → ¬ (bt tx u (scan tx u 3 s 0).1 = 119 ∨ bt tx u (scan tx u 3 s 0).1 = 116) → ∀ mem' : pm_M, Fr [33, 39] mem mem' → S33 mem mem' → mem' 33 7 = nI (scan tx u 3 s 0).1 → Q (some (.int 0)) mem')
    (k2 : ¬ (scan tx u 3 s 0).2 = 0 → (bt tx u (scan tx u 3 s 0).1 = 119 ∨ bt tx u (scan tx u 3 s 0).1 = 116) → ∀ mem' : pm_M, Fr [33, 39] mem mem' → S33 mem mem' → mem' 33 7 = nI ((scan tx u 3 s 0).1 + 1) → mem' 33 8 = nI (g + 1) → mem' 33 10 = nI (w + (if bt tx u (scan tx u 3 s 0).1 = 119 then 2 ^ g else 0)) → (∀ j, j < g + 1 → mem' 39 j = nI (updN p g (scan tx u 3 s 0).2 j)) → Q (some (.int 1)) mem') :
    pm_Ex ro m_X10_readsPart 0 [.ref 33, .null, .null] [] mem Q := by
  have hu := hT.1
  have hend := scan_end tx u 3 s 0
  have heu := scan_u tx u 3 s 0 hs
  have hlt := scan_lt tx u 3 s 0 1 (by decide)
  refine bk_X10_readsPart_0 ⟨fun _ => ?_, fun q => ?_⟩
  · rw [h7]
    refine sp_rp_18 (by omega) 3 s 0 mem hT rfl h7 (fun m1 f1 f2 f3 => ⟨fun hv => ?_, fun hv => ?_⟩)
    · rw [nI_eq0 (by omega)] at hv
      have hT1 : TR m1 tx u := hT.fr (f2 6 (by decide)) (f1 38 (by decide))
      have hF : Fr [33, 39] mem m1 := f1.sub (by decide)
      have hS : S33 mem m1 := fun j p _ _ => f2 j p
      refine sp_here hT1 (by omega) f3 ?_
      have c1 := btI_eq hT.2.2.2 (scan tx u 3 s 0).1 (c := 119) (by decide)
      have c2 := btI_eq hT.2.2.2 (scan tx u 3 s 0).1 (c := 116) (by decide)
      have g8 : m1 33 8 = nI g := (f2 8 (by decide)).trans h8
      have g10 : m1 33 10 = nI w := (f2 10 (by decide)).trans h10
      have K : (bt tx u (scan tx u 3 s 0).1 = 119 ∨ bt tx u (scan tx u 3 s 0).1 = 116) → (pm_inb (m1 33 8) 8 = true) ∧ (pm_Ex ro m_X10_here 0 [.ref 33] [] (pm_up m1 39 ((m1 33 8).toNatClampNeg) (nI (scan tx u 3 s 0).2)) (fun v m => pm_Ex ro m_X10_readsPart 121 [.ref 33, .int (nI s), .int (nI (scan tx u 3 s 0).2)] (v.toList ++ [.int (m1 33 10), .ref 33]) m Q)) := by
        intro hc
        rw [g8, g10, nI_clamp (by omega)]
        refine ⟨nI_inb hg (by decide), ?_⟩
        refine sp_here (i := (scan tx u 3 s 0).1) (hT1.fr (congrFun (up_n (by decide)) 6) (up_n (by decide))) (by omega) (by rw [up_n (by decide)]; exact f3) ?_
        refine bk_X10_readsPart_121 ?_
        have e8 : (pm_up m1 39 g (nI (scan tx u 3 s 0).2)) 33 8 = nI g := by rw [up_n (by decide)]; exact g8
        rw [e8, or_letter hg hw c1]
        refine k2 hv hc _ ((((hF.up (by decide) _ _).up (by decide) _ _).up (by decide) _ _).up (by decide) _ _) ((((hS.un (by decide) _ _).u10 _).u7 _).u8 _) ?_ ?_ ?_ (fun j hj => ?_)
        · rw [up_tj (by decide), up_tk, up_tj (by decide), up_n (by decide), f3, nI_1]
        · rw [up_tk, up_tj (by decide), up_tj (by decide), up_n (by decide), g8, nI_1]
        · rw [up_tj (by decide), up_tj (by decide), up_tk]
        · rw [up_n (by decide), up_n (by decide), up_n (by decide), up_t]
          simp only [upd, updN]
          split
          · rfl
          · rw [f1 39 (by decide)]; exact h39 j (by omega)
      refine bk_X10_readsPart_86 ⟨fun q1 => K (Or.inl (c1.mp q1)), fun q1 => ?_⟩
      refine sp_here hT1 (by omega) f3 ?_
      refine bk_X10_readsPart_95 ⟨fun q2 => K (Or.inr (c2.mp q2)), fun q2 => ?_⟩
      exact k1 hv (fun z => z.elim (fun z => q1 (c1.mpr z)) (fun z => q2 (c2.mpr z))) m1 hF hS f3
    · have hv := Decidable.of_not_not hv
      rw [nI_eq0 (by omega)] at hv
      exact k0 hv _ ((f1.sub (by decide)).up (by decide) _ _) ((show S33 mem m1 from fun j p _ _ => f2 j p).u7 _) (up_tk _ _ _ _)
  · rw [h8, show (8 : Int32) = nI 8 from rfl, nI_eq (by omega) (by decide)] at q
    omega
theorem sp_rp8 {mem : pm_M} (h8 : mem 33 8 = nI 8) (k : Q (some (.int 0)) mem) : pm_Ex ro m_X10_readsPart 0 [.ref 33, .null, .null] [] mem Q :=
  bk_X10_readsPart_0 ⟨fun q => absurd h8 q, fun _ => k⟩
/-- the reference's GOODS, as its text tells them, behind reads() -/
def GR (mem : pm_M) (tx : Nat → Nat) (u : Nat) : Prop := mem 33 8 = nI (pzG tx u) ∧ mem 33 10 = nI (pzW tx u) ∧ ∀ j, j < pzG tx u → mem 39 j = nI (pzP tx u j)
def gN (r : Option Nat × Nat × (Nat → Nat) × Nat) : Nat := match r.1 with
  | none => r.2.1
  | some _ => 0
def gW (r : Option Nat × Nat × (Nat → Nat) × Nat) : Nat := match r.1 with
  | none => r.2.2.2
  | some _ => 0
set_option maxHeartbeats 1000000 in
theorem sp_rd_28 : ∀ (m g s : Nat) (p : Nat → Nat) (w : Nat) (mem : pm_M) (x1 : Int32), ¬ x1 = 0 → TR mem tx u → g + m = 8 → s ≤ u → w < 2 ^ g → mem 33 7 = nI s → mem 33 8 = nI g → mem 33 10 = nI w → (∀ j, j < g → mem 39 j = nI (p j)) →
    (∀ mem' : pm_M, Fr [33, 39] mem mem' → S33 mem mem' → mem' 33 8 = nI (gN (pz tx u m g s p w)) → mem' 33 10 = nI (gW (pz tx u m g s p w)) → (∀ j, j < gN (pz tx u m g s p w) → mem' 39 j = nI ((pz tx u m g s p w).2.2.1 j)) → Q (some (.int (fI (pz tx u m g s p w).1))) mem') →
    pm_Ex ro m_X10_reads 28 [.ref 33, .int x1] [] mem Q := by
  intro m
  induction m with
  | zero =>
    intro g s p w mem x1 hx hT hg hs hw h7 h8 h10 h39 k
    refine bk_X10_reads_28 ⟨fun q => absurd q hx, fun _ => ?_⟩
    have hg8 : g = 8 := by omega
    subst hg8
    refine sp_rp8 h8 ?_
    refine bk_X10_reads_36 ⟨fun q => absurd rfl q, fun _ => ?_⟩
    rw [up_tj (by decide), up_tj (by decide), h7]
    exact k _ (((Fr.rf _ _).up (by decide) _ _).up (by decide) _ _) (((S33.rf _).u8 _).u10 _) (by rw [up_tj (by decide), up_tk]; rfl) (by rw [up_tk]; rfl) (fun j hj => absurd hj (by simp [gN, pz]))
  | succ m ih =>
    intro g s p w mem x1 hx hT hg hs hw h7 h8 h10 h39 k
    have hu := hT.1
    have hend := scan_end tx u 3 s 0
    have heu := scan_u tx u 3 s 0 hs
    refine bk_X10_reads_28 ⟨fun q => absurd q hx, fun _ => ?_⟩
    refine sp_rp hT (by omega) hs hw h7 h8 h10 h39 (fun hv m1 f1 f2 f3 => ?_) (fun hv hc m1 f1 f2 f3 => ?_) (fun hv hc m1 f1 f2 f3 f4 f5 f6 => ?_)
    · simp only [pz, if_pos hv] at k
      refine bk_X10_reads_36 ⟨fun q => absurd rfl q, fun _ => ?_⟩
      rw [up_tj (by decide), up_tj (by decide), f3]
      exact k _ ((f1.up (by decide) _ _).up (by decide) _ _) ((f2.u8 _).u10 _) (by rw [up_tj (by decide), up_tk]; rfl) (by rw [up_tk]; rfl) (fun j hj => absurd hj (by simp [gN]))
    · simp only [pz, if_neg hv, if_neg hc] at k
      refine bk_X10_reads_36 ⟨fun q => absurd rfl q, fun _ => ?_⟩
      rw [up_tj (by decide), up_tj (by decide), f3]
      exact k _ ((f1.up (by decide) _ _).up (by decide) _ _) ((f2.u8 _).u10 _) (by rw [up_tj (by decide), up_tk]; rfl) (by rw [up_tk]; rfl) (fun j hj => absurd hj (by simp [gN]))
    · have he : (scan tx u 3 s 0).1 < u := by
        rcases Nat.lt_or_ge (scan tx u 3 s 0).1 u with z | z
        · exact z
        · simp only [bt] at hc; rw [if_neg (by omega)] at hc; omega
      have hT1 : TR m1 tx u := hT.fr (f2 6 (by decide) (by decide) (by decide)) (f1 38 (by decide))
      refine bk_X10_reads_36 ⟨fun _ => ⟨fun q => ?_, fun q => ?_⟩, fun q => absurd (by decide) q⟩
      · have hz : zb (¬ ((m1 33 6) ≤ (m1 33 7))) = 1 := zb_pos q
        rw [hT1.2.1, f3, nI_leI (by omega) (by omega)] at q
        refine sp_here hT1 (by omega) f3 ?_
        rw [hz]
        have c3 := btI_eq hT.2.2.2 ((scan tx u 3 s 0).1 + 1) (c := 59) (by decide)
        refine bk_X10_reads_69 ⟨fun q2 => ?_, fun q2 => ?_⟩
        · have q2 := c3.mp q2
          simp only [pz, if_neg hv, if_pos hc, if_pos q2] at k
          rw [if_neg (by omega)] at k
          rw [f3, show zb (¬ ((1 : Int32) = 0)) = nI 1 from zb_pos (by decide), nI_add]
          refine ih (g + 1) _ _ _ _ 1 (by decide) (hT1.fr (up_tj (by decide)) (up_n (by decide))) (by omega) (by omega) (w_lt hw) (up_tk _ _ _ _) (by rw [up_tj (by decide)]; exact f4) (by rw [up_tj (by decide)]; exact f5) (fun j hj => by rw [up_n (by decide)]; exact f6 j hj) (fun mem' g1 g2 g3 g4 g5 => ?_)
          exact k mem' ((f1.up (by decide) _ _).tr g1) ((f2.u7 _).tr g2) g3 g4 g5
        · have q2 : ¬ bt tx u ((scan tx u 3 s 0).1 + 1) = 59 := fun z => q2 (c3.mpr z)
          simp only [pz, if_neg hv, if_pos hc, if_neg q2] at k
          rw [if_neg (by omega)] at k
          rw [up_tj (by decide), up_tj (by decide), f3]
          exact k _ ((f1.up (by decide) _ _).up (by decide) _ _) ((f2.u8 _).u10 _) (by rw [up_tj (by decide), up_tk]; rfl) (by rw [up_tk]; rfl) (fun j hj => absurd hj (by simp [gN]))
      · have hz : zb (¬ ((m1 33 6) ≤ (m1 33 7))) = 0 := zb_neg q
        have q := Decidable.of_not_not q
        rw [hT1.2.1, f3, nI_leI (by omega) (by omega)] at q
        rw [hz]
        simp only [pz, if_neg hv, if_pos hc] at k
        rw [if_pos (by omega)] at k
        refine bk_X10_reads_28 ⟨fun _ => ?_, fun q => absurd rfl q⟩
        exact k _ (f1.up (by decide) _ _) (f2.u7 _) (by rw [up_tj (by decide)]; exact f4) (by rw [up_tj (by decide)]; exact f5) (fun j hj => by rw [up_n (by decide)]; exact f6 j hj)
/-- reads(): the FAULT, and the GOODS -/
theorem sp_reads {mem : pm_M} (hT : TR mem tx u) (k : ∀ mem' : pm_M, Fr [33, 39] mem mem' → S33 mem mem' → TR mem' tx u → GR mem' tx u → Q (some (.int (pzF tx u))) mem') : pm_Ex ro m_X10_reads 0 [.ref 33, .null] [] mem Q := by
  have hu := hT.1
  generalize hm0 : pm_up (pm_up (pm_up mem 33 7 0) 33 8 0) 33 10 0 = m0
  have aF : Fr [33, 39] mem m0 := by rw [← hm0]; exact (((Fr.rf _ _).up (by decide) _ _).up (by decide) _ _).up (by decide) _ _
  have aS : S33 mem m0 := by rw [← hm0]; exact (((S33.rf _).u7 _).u8 _).u10 _
  have a7 : m0 33 7 = nI 0 := by rw [← hm0]; simp [pm_up, upd]; rfl
  have a8 : m0 33 8 = nI 0 := by rw [← hm0]; simp [pm_up, upd]; rfl
  have a10 : m0 33 10 = nI 0 := by rw [← hm0]; simp [pm_up, upd]; rfl
  have aT : TR m0 tx u := hT.fr (aS 6 (by decide) (by decide) (by decide)) (aF 38 (by decide))
  refine bk_X10_reads_0 ?_
  rw [hm0]
  by_cases h0 : u = 0
  · have hz : zb (¬ ((m0 33 6) ≤ 0)) = 0 := zb_neg (by rw [aT.2.1, nI_le0 (by omega)]; omega)
    rw [hz]
    have hPZ : PZ tx u = (none, 0, fun _ => 0, 0) := by unfold PZ; rw [if_pos h0]
    refine bk_X10_reads_28 ⟨fun _ => ?_, fun q => absurd rfl q⟩
    have := k m0 aF aS aT ⟨by rw [a8]; simp only [pzG, hPZ], by rw [a10]; simp only [pzW, hPZ], fun j hj => by simp only [pzG, hPZ] at hj; omega⟩
    rw [pzF_I, hPZ] at this
    exact this
  · have hz : zb (¬ ((m0 33 6) ≤ 0)) = 1 := zb_pos (by rw [aT.2.1, nI_le0 (by omega)]; exact h0)
    rw [hz]
    have hPZ : PZ tx u = pz tx u 8 0 0 (fun _ => 0) 0 := by unfold PZ; rw [if_neg h0]
    refine sp_rd_28 8 0 0 (fun _ => 0) 0 m0 1 (by decide) aT (by decide) (by omega) (by decide) a7 a8 a10 (fun j hj => by omega) (fun mem' f1 f2 f3 f4 f5 => ?_)
    rw [← hPZ] at f3 f4 f5 ⊢
    rw [← pzF_I]
    refine k mem' (aF.tr f1) (aS.tr f2) (aT.fr (f2 6 (by decide) (by decide) (by decide)) (f1 38 (by decide))) ⟨?_, ?_, ?_⟩
    · rw [f3]; rfl
    · rw [f4]; rfl
    · exact f5
end GR
