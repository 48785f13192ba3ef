/-! bought, in the object -/
theorem nmin' {a b : Nat} (ha : a < 2 ^ 31) (hb : b < 2 ^ 31) : (if nI a < nI b then nI a else nI b : Int32) = nI (min b a) := by
  by_cases h : a < b
  · rw [if_pos ((nI_ltI ha hb).mpr h), show min b a = a by omega]
  · rw [if_neg (fun z => h ((nI_ltI ha hb).mp z)), show min b a = b by omega]
theorem nmax' {a b : Nat} (ha : a < 2 ^ 31) (hb : b < 2 ^ 31) : (if nI a < nI b then nI b else nI a : Int32) = nI (max a b) := by
  by_cases h : a < b
  · rw [if_pos ((nI_ltI ha hb).mpr h), show max a b = b by omega]
  · rw [if_neg (fun z => h ((nI_ltI ha hb).mp z)), show max a b = a by omega]
section BGC
variable {ro : pm_RO} {Q : Option Value → pm_M → Prop} {tx : Nat → Nat} {u : Nat} {lw ow : Nat → Nat} {sf : Nat → Int32} {sl : Nat → Nat} {si : Nat → Nat → Int32} {lt : Int32}
/-- the rows of parted sets, k bills -/
def LVC (mem : pm_M) (tx : Nat → Nat) (u : Nat) (lw : Nat → Nat) (k q : Nat) : Prop := hasK' k q → mem 9 q = nI (mnk tx u lw k q) ∧ mem 10 q = nI (mxk tx u lw k q)
theorem c_partSet (hO : OKL lw) {mem : pm_M} (hL : LC mem lw) (hB : BI mem tx u lw) {k s : Nat} (hk1 : 1 ≤ k) (hk : k ≤ 3) (hs0 : 0 < s) (hs : s < 2 ^ pzG tx u) (hh : hasK' (k + 1) s) (hl : ∀ q, q < s → LVC mem tx u lw k q) (kk : Q none (pm_up (pm_up mem 9 s (nI (mnk tx u lw (k + 1) s))) 10 s (nI (mxk tx u lw (k + 1) s)))) : pm_Ex ro m_X7_partSet 0 [.ref 6, .int (nI s), .int (nI (k + 1)), .null, .null, .null, .null, .null] [] mem Q := by
  have hG2 := p2_le (pzG_le tx u)
  have hs256 : s < 256 := by omega
  have hf := fre_f hs256 (by omega)
  refine bk_X7_partSet_0 ?_
  have e0 : nI s &&& (nI s - 1) = nI (fre s) := by
    rw [show (1 : Int32) = nI 1 from rfl, pk_sub (by omega), nI_and]; rfl
  rw [e0]
  have key : ∀ (n r : Nat) (lo hi : Int32), n < 256 → r ≤ n → ckm (fre s) n r = true → AC (fun q => sbs k s q ∧ n < q) (mnv tx u lw k s) (mxv tx u lw k s) 2147483647 0 lo hi → ∀ {d7 : Value}, pm_Ex ro m_X7_partSet 16 [.ref 6, .int (nI s), .int (nI (k + 1)), .int (nI (fre s)), .int lo, .int hi, .int (nI r), d7] [] mem Q := by
    intro n
    induction n with
    | zero =>
      intro r lo hi hn hr hck hA d7
      have : r = 0 := by omega
      subst this
      have hpos : ∀ q, sbs k s q → 0 < q := fun q h => by
        rcases h.2.2.2 with ⟨z, -⟩ | ⟨-, z, -⟩ <;> omega
      refine bk_X7_partSet_16 ⟨fun _ => ⟨nI_inb (by omega) (by decide), nI_inb (by omega) (by decide), ?_⟩, fun q => absurd (by decide) q⟩
      rw [nI_clamp (by omega)]
      rcases hA with ⟨z, -⟩ | ⟨a, b, m1, m2, e1, e2⟩
      · obtain ⟨q, hq⟩ := sbs_ex hs256 hh
        exact absurd ⟨hq, hpos q hq⟩ (z q)
      · obtain ⟨g1, g2⟩ := (mk_all (tx := tx) (u := u) hO (k + 1) (by omega) s hs256 hh).2 k rfl
        have ee : ∀ q, (sbs k s q ∧ 0 < q) ↔ sbs k s q := fun q => ⟨fun h => h.1, fun h => ⟨h, hpos q h⟩⟩
        rw [e1, e2, m1.un g1 ee, m2.un g2 ee]
        exact kk
    | succ n ih =>
      intro r lo hi hn hr hck hA d7
      simp only [ckm] at hck
      by_cases hnr : n + 1 = r
      · rw [decide_eq_true hnr] at hck
        simp only [cond_true, Bool.and_eq_true, decide_eq_true_eq] at hck
        obtain ⟨hsub, hck⟩ := hck
        subst hnr
        have hnext : (n + 1 - 1) &&& fre s ≤ n := Nat.le_trans Nat.and_le_left (by omega)
        have e1 : (nI (n + 1) - 1) &&& nI (fre s) = nI ((n + 1 - 1) &&& fre s) := by
          rw [show (1 : Int32) = nI 1 from rfl, pk_sub (by omega), nI_and]
        refine bk_X7_partSet_16 ⟨fun q => absurd q (nI_nle (by omega) (by omega)), fun _ => ?_⟩
        refine sp_bc (by omega) (bk_X7_partSet_26 ?_)
        rw [e1, show nI (k + 1) - 1 = nI k from nI_pred k]
        have hp8 := pc8_le (n + 1) (by omega)
        rw [nI_ltI (by omega) (by omega)]
        refine ⟨fun q => ?_, fun q => ?_⟩
        · refine ih _ lo hi (by omega) hnext hck (hA.cg (fun r => ⟨fun h => ⟨h.1, by omega⟩, fun h => ⟨h.1, ?_⟩⟩))
          have hne : r ≠ n + 1 := fun e => by
            rcases h.1.2.2.2 with ⟨z, -⟩ | ⟨-, -, z⟩
            · omega
            · rw [e] at z; omega
          omega
        · have hsb : sbs k s (n + 1) := ⟨by omega, by omega, hsub, Or.inr ⟨by omega, by omega, by omega⟩⟩
          have hlt := sbs_lt hs256 hsb
          obtain ⟨x1, x2, x3⟩ := mskX hs256 hsub
          have x2 := x2 (by omega)
          have x4 := sub_le x1
          have hbd := mv_le (tx := tx) (u := u) hO (by omega) hsb
          have hc1 := cst_le (tx := tx) (u := u) hO (s ^^^ (n + 1))
          obtain ⟨l1, l2⟩ := hl (n + 1) hlt hsb.2.2.2
          rw [nI_xor, nI_clamp (show s ^^^ (n + 1) < 2 ^ 31 by omega), nI_clamp (show n + 1 < 2 ^ 31 by omega), (hB (s ^^^ (n + 1)) x2 (by omega)).2, show (2 : Int32).toNatClampNeg = 2 from rfl, hL 2 (by decide), l1, l2, nI_add, nI_add, nI_add]
          refine ⟨nI_inb (by omega) (by decide), by decide, nI_inb (by omega) (by decide), nI_inb (by omega) (by decide), ?_⟩
          change pm_Ex ro m_X7_partSet 16 [.ref 6, .int (nI s), .int (nI (k + 1)), .int (nI (fre s)), .int (if nI (mnv tx u lw k s (n + 1)) < lo then nI (mnv tx u lw k s (n + 1)) else lo), .int (if hi < nI (mxv tx u lw k s (n + 1)) then nI (mxv tx u lw k s (n + 1)) else hi), .int (nI ((n + 1 - 1) &&& fre s)), .int (nI (PD lw (SMt tx u (s ^^^ (n + 1))) + lw 2))] [] mem Q
          refine ih _ _ _ (by omega) hnext hck ((hA.st (q := n + 1) (fun r hr => ?_) (by omega) ?_ ?_ ?_ ?_).cg (fun r => ⟨fun h => ?_, fun h => ?_⟩))
          · have := mv_le (tx := tx) (u := u) hO (by omega) hr.1; omega
          · intro z _
            rw [z, show (2147483647 : Int32) = nI 2147483647 from rfl, if_pos (nI_lt (by omega) (by decide))]
          · intro z _
            rw [z]
            by_cases hw0 : mxv tx u lw k s (n + 1) = 0
            · rw [hw0, if_neg (by decide)]; rfl
            · rw [if_pos (by rw [show (0 : Int32) = nI 0 from rfl]; exact nI_lt (by omega) (by omega))]
          · intro a ha z
            rw [z, nmin' (by omega) ha]
          · intro b hb z
            rw [z, nmax' hb (by omega)]
          · rcases h with h | h
            · exact ⟨h.1, by omega⟩
            · rw [h]; exact ⟨hsb, by omega⟩
          · by_cases e : r = n + 1
            · exact Or.inr e
            · exact Or.inl ⟨h.1, by omega⟩
      · rw [decide_eq_false hnr] at hck
        simp only [cond_false, Bool.and_eq_true, Bool.not_eq_true', decide_eq_false_iff_not] at hck
        refine ih r lo hi (by omega) (by omega) hck.2 (hA.cg (fun q => ⟨fun h => ⟨h.1, by omega⟩, fun h => ⟨h.1, ?_⟩⟩))
        have hne : q ≠ n + 1 := fun e => hck.1 (by have := h.1.2.2.1; rw [e] at this; exact this)
        omega
  refine key (fre s) (fre s) _ _ (by omega) (Nat.le_refl _) (ckm_0 (by omega)) (Or.inl ⟨fun q h => ?_, rfl, rfl⟩)
  have := sub_le h.1.2.2.1
  omega
theorem c_partOnce (hO : OKL lw) {m0 : pm_M} (hI : IC m0 tx u lw ow sf sl si lt) (hB : BI m0 tx u lw) {k : Nat} (hk1 : 1 ≤ k) (hk : k ≤ 3) (hl : ∀ q, q < 2 ^ pzG tx u → LVC m0 tx u lw k q) (kk : ∀ m : pm_M, Fr [9, 10] m0 m → (∀ q, q < 2 ^ pzG tx u → LVC m tx u lw (k + 1) q) → Q none m) : pm_Ex ro m_X7_partOnceMore 0 [.ref 6, .int (nI (k + 1)), .null] [] m0 Q := by
  have hG := pzG_le tx u
  have hG2 := p2_le hG
  have hG1 := p2_pos (pzG tx u)
  refine bk_X7_partOnceMore_0 ?_
  rw [hI.2.1.1, whl hG]
  have key : ∀ (s : Nat) (m : pm_M), s < 2 ^ pzG tx u → Fr [9, 10] m0 m → (∀ q, q ≤ s → LVC m tx u lw k q) → (∀ q, s < q → q < 2 ^ pzG tx u → LVC m tx u lw (k + 1) q) → pm_Ex ro m_X7_partOnceMore 8 [.ref 6, .int (nI (k + 1)), .int (nI s)] [] m Q := by
    intro s
    induction s with
    | zero =>
      intro m hs hF h1 h2
      refine bk_X7_partOnceMore_8 ⟨fun _ => kk m hF (fun q hq => ?_), fun q => absurd (by decide) q⟩
      rcases Nat.eq_zero_or_pos q with z | z
      · subst z
        intro h
        rcases h with ⟨a, -⟩ | ⟨-, a, -⟩
        · omega
        · exact absurd rfl a
      · exact h2 q z hq
    | succ s ih =>
      intro m hs hF h1 h2
      refine bk_X7_partOnceMore_8 ⟨fun q => absurd q (nI_nle (by omega) (by omega)), fun _ => ?_⟩
      refine sp_bc (by omega) (bk_X7_partOnceMore_16 ?_)
      have hp8 := pc8_le (s + 1) (by omega)
      rw [nI_ltI (by omega) (by omega), pk_m1]
      refine ⟨fun q => ?_, fun q => ?_⟩
      · refine ih m (by omega) hF (fun q hq => h1 q (by omega)) (fun p hp hp2 => ?_)
        by_cases e : p = s + 1
        · subst e
          intro h
          rcases h with ⟨a, -⟩ | ⟨-, -, a⟩ <;> omega
        · exact h2 p (by omega) hp2
      · refine c_partSet hO (hI.2.2.1.fr (hF 2 (by decide))) (fun p a b => by rw [hF 7 (by decide), hF 8 (by decide)]; exact hB p a b) hk1 hk (by omega) hs (Or.inr ⟨by omega, by omega, by omega⟩) (fun q hq => h1 q (by omega)) (bk_X7_partOnceMore_26 ?_)
        rw [pk_m1]
        refine ih _ (by omega) ((hF.up (by decide) _ _).up (by decide) _ _) (fun q hq h => ?_) (fun p hp hp2 h => ?_)
        · rw [up_n (by decide), up_tj (by omega), up_tj (by omega), up_n (by decide)]
          exact h1 q (by omega) h
        · by_cases e : p = s + 1
          · subst e
            rw [up_n (by decide), up_tk, up_tk]
            exact ⟨rfl, rfl⟩
          · rw [up_n (by decide), up_tj e, up_tj e, up_n (by decide)]
            exact h2 p (by omega) hp2 h
  exact key (2 ^ pzG tx u - 1) m0 (by omega) (Fr.rf _ _) (fun q hq => hl q (by omega)) (fun q h1 h2 => by omega)
/-- the four answers while they are reckoned -/
def BA (a : Nat × Nat × Nat × Nat) : Prop := a.1 ≤ 2147483647 ∧ a.2.2.2 ≤ 1500000
def M6 (m0 m : pm_M) (a : Nat × Nat × Nat × Nat) : Prop := Fr [6] m0 m ∧ (∀ j, j < 8 → m 6 j = m0 6 j) ∧ m 6 8 = nI a.1 ∧ m 6 9 = nI a.2.1 ∧ m 6 10 = nI a.2.2.1 ∧ m 6 11 = nI a.2.2.2
theorem btS_ok (hO : OKL lw) {k s : Nat} (hk1 : 1 ≤ k) (hk : k ≤ 4) (hs0 : s ≠ 0) (hs : s < 256) {a : Nat × Nat × Nat × Nat} (h : BA a) : BA (btS tx u lw k a s) := by
  unfold btS
  split
  · next hc =>
    have hb := (mk_all (tx := tx) (u := u) hO k hk s hs (Or.inr ⟨by omega, hs0, hc.2⟩)).1
    have h2 : k * 300000 ≤ 4 * 300000 := Nat.mul_le_mul_right _ hk
    obtain ⟨h3, h4⟩ := h
    split
    · exact ⟨by simp only; omega, by simp only; omega⟩
    · exact ⟨h3, by simp only; omega⟩
  · exact h
theorem c_takeBest (hO : OKL lw) {m0 : pm_M} (hI : IC m0 tx u lw ow sf sl si lt) {k : Nat} (hk1 : 1 ≤ k) (hk : k ≤ 4) (hl : ∀ q, q < 2 ^ pzG tx u → LVC m0 tx u lw k q) {a0 : Nat × Nat × Nat × Nat} (ha0 : BA a0) (hm : M6 m0 m0 a0) (kk : ∀ m : pm_M, M6 m0 m (btK tx u lw a0 k) → BA (btK tx u lw a0 k) → Q none m) : pm_Ex ro m_X7_takeBest 0 [.ref 6, .int (nI k), .null, .null] [] m0 Q := by
  have hG := pzG_le tx u
  have hG2 := p2_le hG
  have hG1 := p2_pos (pzG tx u)
  refine bk_X7_takeBest_0 ?_
  rw [hI.2.1.2.1]
  have key : ∀ (c s : Nat) (a : Nat × Nat × Nat × Nat) (m : pm_M), s + c = 2 ^ pzG tx u → 1 ≤ s → BA a → M6 m0 m a → (List.range' s c).foldl (btS tx u lw k) a = btK tx u lw a0 k → pm_Ex ro m_X7_takeBest 10 [.ref 6, .int (nI k), .int (nI (pzW tx u)), .int (nI s)] [] m Q := by
    intro c
    induction c with
    | zero =>
      intro s a m hs hs1 hBA hM he
      refine bk_X7_takeBest_10 ?_
      rw [hM.1 3 (by decide), hI.2.1.1, whl hG]
      refine ⟨fun _ => ?_, fun q => absurd (nI_lt (by omega) (by omega)) q⟩
      have he : a = btK tx u lw a0 k := he
      rw [he] at hBA hM
      exact kk m hM hBA
    | succ c ih =>
      intro s a m hs hs1 hBA hM he
      rw [List.range'_succ, List.foldl_cons] at he
      have hBA' := btS_ok (tx := tx) (u := u) hO (s := s) hk1 hk (by omega) (by omega) hBA
      have hp8 := pc8_le s (by omega)
      have hW := pzW_256 tx u
      refine bk_X7_takeBest_10 ?_
      rw [hM.1 3 (by decide), hI.2.1.1, whl hG, (mskW (by omega) hW).2, nI_1]
      refine ⟨fun q => ?_, fun _ => ⟨fun q => ?_, fun q => ?_⟩⟩
      · rw [nI_ltI (by omega) (by omega)] at q; omega
      · have e : btS tx u lw k a s = a := if_neg (fun z => q z.1)
        rw [e] at he
        exact ih (s + 1) a m (by omega) (by omega) hBA hM he
      · have q := Decidable.of_not_not q
        refine sp_bc (by omega) (bk_X7_takeBest_32 ?_)
        rw [nI_ltI (by omega) (by omega), nI_1]
        refine ⟨fun z => ?_, fun z => ⟨nI_inb (by omega) (by decide), ?_⟩⟩
        · have e : btS tx u lw k a s = a := if_neg (fun y => by omega)
          rw [e] at he
          exact ih (s + 1) a m (by omega) (by omega) hBA hM he
        · have hhk : hasK' k s := Or.inr ⟨by omega, by omega, by omega⟩
          obtain ⟨l1, l2⟩ := hl s (by omega) hhk
          have hb := (mk_all (tx := tx) (u := u) hO k hk s (by omega) hhk).1
          have h4 : k * 300000 ≤ 4 * 300000 := Nat.mul_le_mul_right _ hk
          obtain ⟨B1, B2⟩ := hBA
          obtain ⟨M1, M2, M3, M4, M5, M6'⟩ := hM
          have e : btS tx u lw k a s = (if mnk tx u lw k s < a.1 then (mnk tx u lw k s, k, s, max a.2.2.2 (mxk tx u lw k s)) else (a.1, a.2.1, a.2.2.1, max a.2.2.2 (mxk tx u lw k s))) := if_pos ⟨q, by omega⟩
          rw [nI_clamp (by omega), M1 9 (by decide), M1 10 (by decide), l1, l2, M3, nI_leI (by omega) (by omega)]
          refine ⟨fun y => ⟨nI_inb (by omega) (by decide), ?_⟩, fun y => ⟨nI_inb (by omega) (by decide), nI_inb (by omega) (by decide), ?_⟩⟩
          · rw [if_neg (by omega)] at e
            rw [M6', nmax' (by omega) (by omega)]
            rw [e] at he hBA'
            exact ih (s + 1) _ _ (by omega) (by omega) hBA' ⟨M1.up (by decide) _ _, fun j hj => by rw [up_tj (by omega)]; exact M2 j hj, by rw [up_tj (by decide)]; exact M3, by rw [up_tj (by decide)]; exact M4, by rw [up_tj (by decide)]; exact M5, by rw [up_tk]⟩ he
          · rw [if_pos (by omega)] at e
            rw [up_tj (show (11 : Nat) ≠ 10 by decide), up_tj (show (11 : Nat) ≠ 9 by decide), up_tj (show (11 : Nat) ≠ 8 by decide), M6', nmax' (by omega) (by omega)]
            rw [e] at he hBA'
            refine ih (s + 1) _ _ (by omega) (by omega) hBA' ⟨(((M1.up (by decide) _ _).up (by decide) _ _).up (by decide) _ _).up (by decide) _ _, fun j hj => ?_, ?_, ?_, ?_, ?_⟩ he
            · rw [up_tj (by omega), up_tj (by omega), up_tj (by omega), up_tj (by omega)]; exact M2 j hj
            · rw [up_tj (by decide), up_tj (by decide), up_tj (by decide), up_tk]
            · rw [up_tj (by decide), up_tj (by decide), up_tk]
            · rw [up_tj (by decide), up_tk]
            · rw [up_tk]
  have := key (2 ^ pzG tx u - 1) 1 a0 m0 (by omega) (Nat.le_refl _) ha0 hm rfl
  exact this
end BGC
