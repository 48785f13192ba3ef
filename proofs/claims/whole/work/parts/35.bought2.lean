/-! bought, in the object: the end -/
section BGD
variable {ro : pm_RO} {Q : Option Value → pm_M → Prop} {tx : Nat → Nat} {u : Nat} {lw ow : Nat → Nat} {sf : Nat → Int32} {sl : Nat → Nat} {si : Nat → Nat → Int32} {lt : Int32}
theorem IC.till {m1 m : pm_M} (hI : IC m1 tx u lw ow sf sl si lt) (hF : Fr [6, 9, 10] m1 m) (h6 : m 6 6 = m1 6 6) (h7 : m 6 7 = 0 ∨ (m 6 7 = 1 ∧ ∀ j, j < 4 → m 6 (8 + j) = nI (bt4 (btA tx u lw) j))) : IC m tx u lw ow sf sl si lt := by
  obtain ⟨g1, g2, g3, g4, g5, g6, g7, g8⟩ := hI
  refine ⟨g1.fr (by rw [hF 3 (by decide)]) (hF 4 (by decide)), g2.fr (hF 3 (by decide)) (hF 5 (by decide)), g3.fr (hF 2 (by decide)), g4.fr (hF 12 (by decide)), g5.fr (fun t t1 t2 => hF t (by simp only [List.mem_cons, List.not_mem_nil, or_false]; omega)), by rw [hF 0 (by decide)]; exact g6, ⟨by rw [hF 7 (by decide)]; exact g7.1, ?_, h7⟩, g8.fr (hF 15 (by decide)) (hF 16 (by decide))⟩
  rw [h6]
  unfold BI
  rw [hF 7 (by decide), hF 8 (by decide)]
  exact g7.2.1
theorem bt4_all {m : pm_M} {a : Nat × Nat × Nat × Nat} (h0 : m 6 8 = nI a.1) (h1 : m 6 9 = nI a.2.1) (h2 : m 6 10 = nI a.2.2.1) (h3 : m 6 11 = nI a.2.2.2) : ∀ j, j < 4 → m 6 (8 + j) = nI (bt4 a j) := by
  intro j hj
  rcases (show j = 0 ∨ j = 1 ∨ j = 2 ∨ j = 3 by omega) with rfl | rfl | rfl | rfl
  · exact h0
  · exact h1
  · exact h2
  · exact h3
theorem sp_bought (hO : OKL lw) {mem : pm_M} (hI : IC mem tx u lw ow sf sl si lt) (k : ∀ mem' : pm_M, Fr [6, 7, 8, 9, 10] mem mem' → IC mem' tx u lw ow sf sl si lt → (∀ j, j < 4 → mem' 6 (8 + j) = nI (bt4 (btA tx u lw) j)) → Q none mem') : pm_Ex ro m_X7_reckonBought 0 [.ref 6, .null] [] mem Q := by
  have hG := pzG_le tx u
  have hG2 := p2_le hG
  have hG1 := p2_pos (pzG tx u)
  have hl3 := hO.2.2.2.2
  have known : ¬ mem 6 7 = 0 → Q none mem := fun h0 => by
    rcases hI.2.2.2.2.2.2.1.2.2 with z | ⟨z, z'⟩
    · exact absurd z h0
    · exact k mem (Fr.rf _ _) hI z'
  refine bk_X7_reckonBought_0 ⟨fun h0 => ?_, known⟩
  refine sp_bills hO hI (fun m1 f1 f2 f3 f4 f5 => bk_X7_reckonBought_12 ?_)
  rw [h0] at f5
  rw [f2.2.1.2.1]
  have e0 : (if ¬ nI (pzW tx u) = 0 then 2147483647 else 0 : Int32) = nI (bt0 tx u).1 := by
    have hW := pzW_256 tx u
    unfold bt0
    by_cases h : pzW tx u = 0
    · rw [if_neg (not_not_intro ((nI_eq0 (by omega)).mpr h)), if_pos h]; rfl
    · rw [if_pos (fun q => h ((nI_eq0 (by omega)).mp q)), if_neg h]; rfl
  rw [e0]
  generalize hm2 : pm_up (pm_up (pm_up (pm_up m1 6 8 (nI (bt0 tx u).1)) 6 9 0) 6 10 0) 6 11 0 = m2
  have hM2 : M6 m1 m2 (bt0 tx u) := by
    rw [← hm2]
    refine ⟨((((Fr.rf _ _).up (by decide) _ _).up (by decide) _ _).up (by decide) _ _).up (by decide) _ _, fun j hj => ?_, ?_, ?_, ?_, ?_⟩
    · rw [up_tj (by omega), up_tj (by omega), up_tj (by omega), up_tj (by omega)]
    · rw [up_tj (by decide), up_tj (by decide), up_tj (by decide), up_tk]
    · rw [up_tj (by decide), up_tj (by decide), up_tk]; rfl
    · rw [up_tj (by decide), up_tk]; rfl
    · rw [up_tk]; rfl
  have hBA0 : BA (bt0 tx u) := by
    unfold bt0 BA
    refine ⟨?_, by simp⟩
    dsimp only
    split <;> omega
  -- bills 2 and more
  have lp : ∀ (c j : Nat) (a : Nat × Nat × Nat × Nat) (m : pm_M), j + c = lw 3 → 1 ≤ j → Fr [6, 9, 10] m1 m → m 6 6 = 1 → m 6 7 = 0 → (∀ q, q < 2 ^ pzG tx u → LVC m tx u lw j q) → BA a → M6 m m a → (List.range' (j + 1) c).foldl (btK tx u lw) a = btA tx u lw → pm_Ex ro m_X7_reckonBought 106 [.ref 6, .int (nI (j + 1))] [] m Q := by
    intro c
    induction c with
    | zero =>
      intro j a m hj hj1 hF h66 h67 hl hBA hM he
      refine bk_X7_reckonBought_106 ⟨by decide, ?_⟩
      rw [show (3 : Int32).toNatClampNeg = 3 from rfl, hF 2 (by decide), f2.2.2.1 3 (by decide), nI_ltI (by omega) (by omega)]
      refine ⟨fun _ => ?_, fun q => by omega⟩
      have he : a = btA tx u lw := he
      rw [he] at hM
      obtain ⟨-, -, M3, M4, M5, M6'⟩ := hM
      have hall : ∀ j, j < 4 → (pm_up m 6 7 1) 6 (8 + j) = nI (bt4 (btA tx u lw) j) := fun j hj => by
        rw [up_tj (by omega)]; exact bt4_all M3 M4 M5 M6' j hj
      refine k _ (((f1.sub (by decide)).tr (hF.sub (by decide))).up (by decide) _ _) (f2.till (hF.up (by decide) _ _) (by rw [up_tj (by decide), h66, f4]) (Or.inr ⟨up_tk _ _ _ _, hall⟩)) hall
    | succ c ih =>
      intro j a m hj hj1 hF h66 h67 hl hBA hM he
      rw [List.range'_succ, List.foldl_cons] at he
      have hIm : IC m tx u lw ow sf sl si lt := f2.till hF (by rw [h66, f4]) (Or.inl h67)
      have hBm : BI m tx u lw := fun s a b => by rw [hF 7 (by decide), hF 8 (by decide)]; exact f3 s a b
      refine bk_X7_reckonBought_106 ⟨by decide, ?_⟩
      rw [show (3 : Int32).toNatClampNeg = 3 from rfl, hF 2 (by decide), f2.2.2.1 3 (by decide), nI_ltI (by omega) (by omega)]
      refine ⟨fun q => by omega, fun _ => ?_⟩
      refine c_partOnce hO hIm hBm hj1 (by omega) hl (fun m3 g1 g2 => bk_X7_reckonBought_123 ?_)
      have hI3 : IC m3 tx u lw ow sf sl si lt := hIm.scr g1 (by decide)
      have e6 : m3 6 = m 6 := g1 6 (by decide)
      obtain ⟨-, -, M3, M4, M5, M6'⟩ := hM
      refine c_takeBest hO hI3 (by omega) (by omega) g2 hBA ⟨Fr.rf _ _, fun _ _ => rfl, by rw [e6]; exact M3, by rw [e6]; exact M4, by rw [e6]; exact M5, by rw [e6]; exact M6'⟩ (fun m4 i1 i2 => bk_X7_reckonBought_128 ?_)
      rw [nI_1]
      obtain ⟨N1, N2, N3, N4, N5, N6⟩ := i1
      refine ih (j + 1) _ m4 (by omega) (by omega) ((hF.tr (g1.sub (by decide))).tr (N1.sub (by decide))) (by rw [N2 6 (by decide), e6, h66]) (by rw [N2 7 (by decide), e6, h67]) (fun q hq h => ?_) i2 ⟨Fr.rf _ _, fun _ _ => rfl, N3, N4, N5, N6⟩ he
      rw [N1 9 (by decide), N1 10 (by decide)]
      exact g2 q hq h
  -- one bill
  have l1 : ∀ (c s : Nat) (m : pm_M), s + c = 2 ^ pzG tx u → 1 ≤ s → Fr [9, 10] m2 m → (∀ q, 0 < q → q < s → m 9 q = nI (cst tx u lw q) ∧ m 10 q = nI (cst tx u lw q)) → pm_Ex ro m_X7_reckonBought 49 [.ref 6, .int (nI s)] [] m Q := by
    intro c
    induction c with
    | zero =>
      intro s m hs hs1 hF hl
      have h3 : m 3 = m1 3 := by rw [hF 3 (by decide), hM2.1 3 (by decide)]
      refine bk_X7_reckonBought_49 ?_
      rw [h3, f2.2.1.1, whl hG]
      refine ⟨fun _ => ?_, fun q => absurd (nI_lt (by omega) (by omega)) q⟩
      have hF1 : Fr [6, 9, 10] m1 m := (hM2.1.sub (by decide)).tr (hF.sub (by decide))
      have e6 : m 6 = m2 6 := hF 6 (by decide)
      obtain ⟨-, M2, M3, M4, M5, M6'⟩ := hM2
      have h66 : m 6 6 = 1 := by rw [e6, M2 6 (by decide), f4]
      have h67 : m 6 7 = 0 := by rw [e6, M2 7 (by decide), f5]
      have hIm : IC m tx u lw ow sf sl si lt := f2.till hF1 (by rw [h66, f4]) (Or.inl h67)
      have hlv : ∀ q, q < 2 ^ pzG tx u → LVC m tx u lw 1 q := fun q hq h => by
        rcases h with ⟨a, -⟩ | ⟨-, a, -⟩
        · omega
        · exact hl q (by omega) (by omega)
      refine c_takeBest (k := 1) hO hIm (Nat.le_refl _) (by decide) hlv hBA0 ⟨Fr.rf _ _, fun _ _ => rfl, by rw [e6]; exact M3, by rw [e6]; exact M4, by rw [e6]; exact M5, by rw [e6]; exact M6'⟩ (fun m4 i1 i2 => bk_X7_reckonBought_104 ?_)
      obtain ⟨N1, N2, N3, N4, N5, N6⟩ := i1
      refine lp (lw 3 - 1) 1 _ m4 (by omega) (Nat.le_refl _) (hF1.tr (N1.sub (by decide))) (by rw [N2 6 (by decide), h66]) (by rw [N2 7 (by decide), h67]) (fun q hq h => ?_) i2 ⟨Fr.rf _ _, fun _ _ => rfl, N3, N4, N5, N6⟩ ?_
      · rw [N1 9 (by decide), N1 10 (by decide)]
        exact hlv q hq h
      · unfold btA
        have e1 : List.range' 1 (lw 3) = 1 :: List.range' 2 (lw 3 - 1) := by
          obtain ⟨c, hc⟩ : ∃ c, lw 3 = c + 1 := ⟨lw 3 - 1, by omega⟩
          rw [hc, List.range'_succ, Nat.add_sub_cancel]
        rw [e1, List.foldl_cons]
    | succ c ih =>
      intro s m hs hs1 hF hl
      have h3 : m 3 = m1 3 := by rw [hF 3 (by decide), hM2.1 3 (by decide)]
      have h2 : m 2 = m1 2 := by rw [hF 2 (by decide), hM2.1 2 (by decide)]
      have h8 : m 8 = m1 8 := by rw [hF 8 (by decide), hM2.1 8 (by decide)]
      refine bk_X7_reckonBought_49 ?_
      rw [h3, f2.2.1.1, whl hG]
      refine ⟨fun q => ?_, fun _ => ⟨nI_inb (by omega) (by decide), by decide, nI_inb (by omega) (by decide), nI_inb (by omega) (by decide), nI_inb (by omega) (by decide), ?_⟩⟩
      · rw [nI_ltI (by omega) (by omega)] at q; omega
      rw [nI_clamp (by omega), up_tk, show (2 : Int32).toNatClampNeg = 2 from rfl, h8, h2, (f3 s (by omega) (by omega)).2, f2.2.2.1 2 (by decide), nI_add, nI_1]
      refine ih (s + 1) _ (by omega) (by omega) ((hF.up (by decide) _ _).up (by decide) _ _) (fun q q1 q2 => ?_)
      by_cases e : q = s
      · subst e
        rw [up_n (by decide), up_tk, up_tk]
        exact ⟨rfl, rfl⟩
      · rw [up_n (by decide), up_tj e, up_tj e, up_n (by decide)]
        exact hl q q1 (by omega)
  exact l1 (2 ^ pzG tx u - 1) 1 m2 (by omega) (Nat.le_refl _) (Fr.rf _ _) (fun q q1 q2 => by omega)
end BGD
