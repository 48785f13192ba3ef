/-! the GOODS, read by the class and by the reference -/
def fI : Option Nat → Int32
  | none => -1
  | some f => nI f
theorem or_bit {g w : Nat} (hg : g < 8) (hw : w < 2 ^ g) : nI w ||| ((1 : Int32) <<< (nI g &&& 31)) = nI (w + 2 ^ g) := by
  have key : ∀ g, g < 8 → ∀ w, w < 256 → w < 2 ^ g → nI w ||| ((1 : Int32) <<< (nI g &&& 31)) = nI (w + 2 ^ g) := by decide +kernel
  exact key g hg w (Nat.lt_of_lt_of_le hw (Nat.le_trans (Nat.pow_le_pow_right (by decide) (show g ≤ 8 by omega)) (by decide))) hw
theorem or_zero (w : Nat) : nI w ||| (0 : Int32) = nI w := by simp
theorem or_letter {g w c : Nat} {x : Int32} (hg : g < 8) (hw : w < 2 ^ g) (hx : x = 119 ↔ c = 119) : nI w ||| (if ¬ x = 119 then 0 else (1 : Int32) <<< (nI g &&& 31) : Int32) = nI (w + (if c = 119 then 2 ^ g else 0)) := by
  by_cases h : c = 119
  · rw [if_neg (not_not_intro (hx.mpr h)), if_pos h, or_bit hg hw]
  · rw [if_pos (fun q => h (hx.mp q)), if_neg h, or_zero, Nat.add_zero]
theorem w_lt {g w c : Nat} (hw : w < 2 ^ g) : w + (if c = 119 then 2 ^ g else 0) < 2 ^ (g + 1) := by
  rw [Nat.pow_succ]; split <;> omega
section GC
variable {ro : pm_RO} {Q : Option Value → pm_M → Prop} {tx : Nat → Nat} {u : Nat}
set_option maxHeartbeats 1000000 in
theorem sp_ug_4 {d3 d4 d5 : Value} : ∀ (m g s : Nat) (p : Nat → Nat) (w : Nat) (mem : pm_M), TC mem tx u → g + m = 8 → s ≤ u → w < 2 ^ g → mem 3 3 = nI g → mem 3 4 = nI w → (∀ j, j < g → mem 5 j = nI (p j)) →
    (∀ mem' : pm_M, Fr [3, 5] mem mem' → mem' 3 2 = mem 3 2 → mem' 3 3 = nI (pz tx u m g s p w).2.1 → mem' 3 4 = nI (pz tx u m g s p w).2.2.2 → (∀ j, j < (pz tx u m g s p w).2.1 → mem' 5 j = nI ((pz tx u m g s p w).2.2.1 j)) → Q (some (.int (fI (pz tx u m g s p w).1))) mem') →
    ∀ {d3 d4 d5 : Value}, pm_Ex ro m_X1_understandGoods 4 [.ref 3, .int (nI s), .int (nI g), d3, d4, d5] [] mem Q := by
  intro m
  induction m with
  | zero =>
    intro g s p w mem hT hg hs hw h3 h4 h5 k d3 d4 d5
    refine bk_X1_understandGoods_4 ⟨fun _ => k mem (Fr.rf _ _) rfl h3 h4 h5, fun q => ?_⟩
    rw [show (8 : Int32) = nI 8 from rfl, nI_leI (by decide) (by omega)] at q
    omega
  | succ m ih =>
    intro g s p w mem hT hg hs hw h3 h4 h5 k d3 d4 d5
    have hu := hT.1
    have hend := scan_end tx u 3 s 0
    have heu := scan_u tx u 3 s 0 hs
    have hlt := scan_lt tx u 3 s 0 1 (by decide)
    refine bk_X1_understandGoods_4 ⟨fun q => ?_, fun _ => ?_⟩
    · rw [show (8 : Int32) = nI 8 from rfl, nI_leI (by decide) (by omega)] at q
      omega
    refine sp_eof hT (by omega) ?_
    refine bk_X1_understandGoods_15 ?_
    refine sp_nb hT (by omega) ?_
    refine bk_X1_understandGoods_22 ⟨fun hv => ?_, fun hv => ?_⟩
    · rw [nI_eq0 (by omega)] at hv
      refine sp_byteAt hT (by omega) ?_
      have c1 := btI_eq hT.2.2.2 (scan tx u 3 s 0).1 (c := 119) (by decide)
      have c2 := btI_eq hT.2.2.2 (scan tx u 3 s 0).1 (c := 116) (by decide)
      generalize hm1 : pm_up (pm_up (pm_up mem 5 (nI g).toNatClampNeg (nI (scan tx u 3 s 0).2)) 3 4 (mem 3 4 ||| (if ¬ btI tx u (scan tx u 3 s 0).1 = 119 then 0 else (1 : Int32) <<< (nI g &&& 31) : Int32))) 3 3 (nI g + 1) = m1
      have e2 : m1 3 2 = mem 3 2 := by rw [← hm1]; simp [pm_up, upd]
      have e3 : m1 3 3 = nI (g + 1) := by rw [← hm1, up_tk, nI_1]
      have e4 : m1 3 4 = nI (w + (if bt tx u (scan tx u 3 s 0).1 = 119 then 2 ^ g else 0)) := by
        rw [← hm1, up_tj (by decide), up_tk, h4]
        exact or_letter (by omega) hw c1
      have e5 : ∀ j, j < g + 1 → m1 5 j = nI (updN p g (scan tx u 3 s 0).2 j) := by
        intro j hj
        rw [← hm1, up_n (by decide), up_n (by decide), up_t, nI_clamp (by omega)]
        simp only [upd, updN]
        split
        · rfl
        · exact h5 j (by omega)
      have hF : Fr [3, 5] mem m1 := by
        rw [← hm1]
        exact (((Fr.rf _ _).up (by decide) _ _).up (by decide) _ _).up (by decide) _ _
      have hT1 : TC m1 tx u := hT.fr e2 (hF 4 (by decide))
      have K : (bt tx u (scan tx u 3 s 0).1 = 119 ∨ bt tx u (scan tx u 3 s 0).1 = 116) → (pm_inb (nI g) 8 = true) ∧ ((¬ (nI (scan tx u 3 s 0).1 + 1) = (m1 3 2) → pm_Ex ro m_X1_byteAt 0 [.ref 3, .int (nI (scan tx u 3 s 0).1 + 1)] [] m1 (fun v m => pm_Ex ro m_X1_understandGoods 111 [.ref 3, .int (nI s), .int (nI g), .int (nI (scan tx u 3 s 0).1), .int (nI (scan tx u 3 s 0).2), .int (btI tx u (scan tx u 3 s 0).1)] (v.toList ++ []) m Q)) ∧ (¬ (¬ (nI (scan tx u 3 s 0).1 + 1) = (m1 3 2)) → Q (some (.int (-1))) m1)) := by
        intro hc
        refine ⟨nI_inb (by omega) (by decide), fun q => ?_, fun q => ?_⟩
        · rw [e2, hT.2.1, nI_1, nI_eq (by omega) (by omega)] at q
          rw [nI_1]
          refine sp_byteAt hT1 (by omega) ?_
          have c3 := btI_eq hT.2.2.2 ((scan tx u 3 s 0).1 + 1) (c := 59) (by decide)
          refine bk_X1_understandGoods_111 ⟨fun q2 => ?_, fun q2 => ?_⟩
          · have q2 := c3.mp q2
            have hlt2 : (scan tx u 3 s 0).1 + 1 < u := by
              rcases Nat.lt_or_ge ((scan tx u 3 s 0).1 + 1) u with z | z
              · exact z
              · simp only [bt] at q2; rw [if_neg (by omega)] at q2; omega
            rw [nI_1, show (2 : Int32) = nI 2 from rfl, nI_add]
            simp only [pz, if_neg hv, if_pos hc, if_neg q, if_pos q2] at k
            refine ih (g + 1) _ _ _ m1 hT1 (by omega) (by omega) (w_lt hw) e3 e4 e5 (fun mem' f1 f2 f3 f4 f5 => ?_)
            exact k mem' (hF.tr f1) (f2.trans e2) f3 f4 f5
          · have q2 : ¬ bt tx u ((scan tx u 3 s 0).1 + 1) = 59 := fun z => q2 (c3.mpr z)
            rw [nI_1]
            simp only [pz, if_neg hv, if_pos hc, if_neg q, if_neg q2] at k
            exact k m1 hF e2 e3 e4 e5
        · have q := Decidable.of_not_not q
          rw [e2, hT.2.1, nI_1, nI_eq (by omega) (by omega)] at q
          simp only [pz, if_neg hv, if_pos hc, if_pos q] at k
          exact k m1 hF e2 e3 e4 e5
      refine bk_X1_understandGoods_36 ⟨fun q1 => ?_, fun q1 => ⟨fun q2 => ?_, fun q2 => ?_⟩⟩
      · rw [hm1]; exact K (Or.inl (c1.mp q1))
      · rw [hm1]; exact K (Or.inr (c2.mp q2))
      · have hc : ¬ (bt tx u (scan tx u 3 s 0).1 = 119 ∨ bt tx u (scan tx u 3 s 0).1 = 116) := fun z => z.elim (fun z => q1 (c1.mpr z)) (fun z => q2 (c2.mpr z))
        simp only [pz, if_neg hv, if_neg hc] at k
        exact k mem (Fr.rf _ _) rfl h3 h4 h5
    · have hv := Decidable.of_not_not hv
      rw [nI_eq0 (by omega)] at hv
      simp only [pz, if_pos hv] at k
      exact k mem (Fr.rf _ _) rfl h3 h4 h5
/-- the class's GOODS, as its text tells them -/
def GC (mem : pm_M) (tx : Nat → Nat) (u : Nat) : Prop := mem 3 3 = nI (pzG tx u) ∧ mem 3 4 = nI (pzW tx u) ∧ mem 3 5 = pzF tx u ∧ ∀ j, j < pzG tx u → mem 5 j = nI (pzP tx u j)
theorem pzF_I (tx : Nat → Nat) (u : Nat) : pzF tx u = fI (PZ tx u).1 := by
  unfold pzF fI; cases (PZ tx u).1 <;> rfl
theorem fI_ne {f : Nat} (h : f < 2 ^ 31) : ¬ nI f = -1 := by
  intro q
  have := congrArg Int32.toInt q
  rw [nI_toInt h] at this
  have e : (-1 : Int32).toInt = -1 := by decide
  rw [e] at this
  omega
theorem pz_fault (tx : Nat → Nat) (u : Nat) : ∀ (m g s : Nat) (p : Nat → Nat) (w f : Nat), s ≤ u → (pz tx u m g s p w).1 = some f → f ≤ u := by
  intro m
  induction m with
  | zero => intro g s p w f hs h; simp only [pz, Option.some.injEq] at h; omega
  | succ m ih =>
    intro g s p w f hs h
    have heu := scan_u tx u 3 s 0 hs
    simp only [pz] at h
    split at h
    · simp only [Option.some.injEq] at h; omega
    · split at h
      · next hc =>
        have he : (scan tx u 3 s 0).1 < u := by
          rcases Nat.lt_or_ge (scan tx u 3 s 0).1 u with z | z
          · exact z
          · simp only [bt] at hc; rw [if_neg (by omega)] at hc; omega
        split at h
        · cases h
        · next hn =>
          split at h
          · exact ih _ _ _ _ _ (by omega) h
          · simp only [Option.some.injEq] at h; omega
      · simp only [Option.some.injEq] at h; omega
theorem sp_understand {mem : pm_M} (hT : TC mem tx u) (k : ∀ mem' : pm_M, Fr [3, 5] mem mem' → TC mem' tx u → GC mem' tx u → Q none mem') : pm_Ex ro m_X1_understand 0 [.ref 3] [] mem Q := by
  generalize hm0 : pm_up (pm_up mem 3 3 0) 3 4 0 = m0
  have a2 : m0 3 2 = mem 3 2 := by rw [← hm0]; simp [pm_up, upd]
  have a3 : m0 3 3 = nI 0 := by rw [← hm0]; simp [pm_up, upd]; rfl
  have a4 : m0 3 4 = nI 0 := by rw [← hm0]; simp [pm_up, upd]; rfl
  have aF : Fr [3, 5] mem m0 := by rw [← hm0]; exact ((Fr.rf _ _).up (by decide) _ _).up (by decide) _ _
  have aT : TC m0 tx u := hT.fr a2 (aF 4 (by decide))
  have hu := hT.1
  refine bk_X1_understand_0 ⟨fun h => ?_, fun h => ?_⟩
  · rw [hm0, a2, hT.2.1, nI_eq0 (by omega)] at h
    rw [hm0]
    have hPZ : PZ tx u = pz tx u 8 0 0 (fun _ => 0) 0 := by unfold PZ; rw [if_neg h]
    refine bk_X1_understandGoods_0 ?_
    refine sp_ug_4 (d3 := .null) (d4 := .null) (d5 := .null) 8 0 0 (fun _ => 0) 0 m0 aT (by decide) (by omega) (by decide) a3 a4 (fun j hj => by omega) (fun mem' f1 f2 f3 f4 f5 => ?_)
    rw [← hPZ] at f3 f4 f5 ⊢
    have hT' : TC mem' tx u := aT.fr f2 (f1 4 (by decide))
    refine bk_X1_understand_26 ⟨fun q => ?_, fun q => ?_⟩
    · rw [up_tk] at q
      cases hf : (PZ tx u).1 with
      | none =>
        refine k _ ((aF.tr f1).up (by decide) _ _) (hT'.fr (by simp [pm_up, upd]) (by simp [pm_up])) ⟨?_, ?_, ?_, fun j hj => ?_⟩
        · rw [up_tj (by decide), f3]; simp only [pzG, hf]
        · rw [up_tj (by decide), f4]; simp only [pzW, hf]
        · rw [up_tk, pzF_I, hf]
        · rw [up_n (by decide)]
          simp only [pzG, hf] at hj
          exact f5 j hj
      | some f =>
        rw [hf] at q
        rw [hPZ] at hf
        have := pz_fault tx u 8 0 0 _ 0 f (by omega) hf
        exact absurd q (fI_ne (by omega))
    · rw [up_tk] at q
      cases hf : (PZ tx u).1 with
      | none => rw [hf] at q; exact absurd rfl q
      | some f =>
        refine k _ ((((aF.tr f1).up (by decide) _ _).up (by decide) _ _).up (by decide) _ _) (hT'.fr (by simp [pm_up, upd]) (by simp [pm_up])) ⟨?_, ?_, ?_, fun j hj => ?_⟩
        · rw [up_tj (by decide), up_tk]; simp only [pzG, hf]; rfl
        · rw [up_tk]; simp only [pzW, hf]; rfl
        · rw [up_tj (by decide), up_tj (by decide), up_tk, pzF_I, hf]
        · simp only [pzG, hf] at hj; omega
  · rw [hm0, a2, hT.2.1] at h
    have h := Decidable.of_not_not h
    rw [nI_eq0 (by omega)] at h
    rw [hm0]
    refine ⟨fun _ => ?_, fun q => absurd (up_tk _ _ _ _) q⟩
    have hPZ : PZ tx u = (none, 0, fun _ => 0, 0) := by unfold PZ; rw [if_pos h]
    refine k _ (aF.up (by decide) _ _) (aT.fr (by simp [pm_up, upd]) (by simp [pm_up])) ⟨?_, ?_, ?_, fun j hj => ?_⟩
    · rw [up_tj (by decide), a3]; simp only [pzG, hPZ]
    · rw [up_tj (by decide), a4]; simp only [pzW, hPZ]
    · rw [up_tk, pzF_I, hPZ]; rfl
    · simp only [pzG, hPZ] at hj; omega
end GC
