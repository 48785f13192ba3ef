/-! bought, in the reference -/
section BGR
variable {ro : pm_RO} {Q : Option Value → pm_M → Prop} {tx : Nat → Nat} {u : Nat} {lw ow : Nat → Nat} {sf : Nat → Int32} {sl : Nat → Nat} {si : Nat → Nat → Int32} {lt : Int32}
def RLv (m : pm_M) (tx : Nat → Nat) (u : Nat) (lw : Nat → Nat) (k q : Nat) : Prop := (hasK' k q → m 42 (256 * k + q) = nI (mnk tx u lw k q) ∧ m 43 (256 * k + q) = nI (mxk tx u lw k q)) ∧ (¬ hasK' k q → m 42 (256 * k + q) = 100000000 ∧ m 43 (256 * k + q) = -1)
/-- one set is parted once more -/
theorem r_partSet (hO : OKL lw) {k s : Nat} (hk : k ≤ 3) (hs : s < 256) {m0 : pm_M} (h44 : ∀ q, q ≤ s → m0 44 q = nI (cst tx u lw q)) (hl : ∀ q, q ≤ s → RLv m0 tx u lw k q) (h42 : m0 42 (256 * (k + 1) + s) = 100000000) (h43 : m0 43 (256 * (k + 1) + s) = -1)
    (kk : ∀ (m : pm_M), Fr [42, 43] m0 m → (∀ j, j ≠ 256 * (k + 1) + s → m 42 j = m0 42 j ∧ m 43 j = m0 43 j) → RLv m tx u lw (k + 1) s → ∀ {x5 : Int32} {d6 : Value}, pm_Ex ro m_X10_findBills 83 [.ref 33, .int (nI (k + 1)), .int (nI (s + 1)), .int (nI (256 * (k + 1) + s)), .int (nI s &&& (-nI s)), .int x5, d6] [] m Q) :
    ∀ {d6 : Value}, pm_Ex ro m_X10_findBills 123 [.ref 33, .int (nI (k + 1)), .int (nI s), .int (nI (256 * (k + 1) + s)), .int (nI s &&& (-nI s)), .int (nI s), d6] [] m0 Q := by
  have key : ∀ (n r : Nat) (m : pm_M), n < 256 → r ≤ n → ckm s n r = true → Fr [42, 43] m0 m → (∀ j, j ≠ 256 * (k + 1) + s → m 42 j = m0 42 j ∧ m 43 j = m0 43 j) → AC (fun q => sbs k s q ∧ n < s ^^^ q) (mnv tx u lw k s) (mxv tx u lw k s) 100000000 (-1) (m 42 (256 * (k + 1) + s)) (m 43 (256 * (k + 1) + s)) → ∀ {d6 : Value}, pm_Ex ro m_X10_findBills 123 [.ref 33, .int (nI (k + 1)), .int (nI s), .int (nI (256 * (k + 1) + s)), .int (nI s &&& (-nI s)), .int (nI r), d6] [] m Q := by
    intro n
    induction n with
    | zero =>
      intro r m hn hr hck hF hj hA d6
      have : r = 0 := by omega
      subst this
      have hpos : ∀ q, sbs k s q → 0 < s ^^^ q := fun q h => (mskX hs h.2.2.1).2.1 h.1
      have ee : ∀ q, (sbs k s q ∧ 0 < s ^^^ q) ↔ sbs k s q := fun q => ⟨fun h => h.1, fun h => ⟨h, hpos q h⟩⟩
      refine bk_X10_findBills_123 ⟨fun _ => ?_, fun q => absurd (by decide) q⟩
      rw [nI_1]
      refine kk m hF hj ⟨fun hh => ?_, fun hh => ?_⟩
      · rcases hA with ⟨z, -⟩ | ⟨a, b, m1, m2, e1, e2⟩
        · obtain ⟨q, hq⟩ := sbs_ex hs hh
          exact absurd ⟨hq, hpos q hq⟩ (z q)
        · obtain ⟨g1, g2⟩ := (mk_all (tx := tx) (u := u) hO (k + 1) (by omega) s hs hh).2 k rfl
          rw [e1, e2, m1.un g1 ee, m2.un g2 ee]
          exact ⟨rfl, rfl⟩
      · rcases hA with ⟨-, z⟩ | ⟨a, b, m1, m2, e1, e2⟩
        · exact z
        · obtain ⟨q, hq, -⟩ := m1.2
          exact absurd hq.1 (sbs_no hs hh q)
    | succ n ih =>
      intro r m hn hr hck hF hj hA d6
      simp only [ckm] at hck
      by_cases hnr : n + 1 = r
      · rw [decide_eq_true hnr] at hck
        simp only [cond_true, Bool.and_eq_true, decide_eq_true_eq] at hck
        obtain ⟨hsub, hck⟩ := hck
        subst hnr
        have hle := sub_le hsub
        have hnext : (n + 1 - 1) &&& s ≤ n := Nat.le_trans Nat.and_le_left (by omega)
        obtain ⟨fA, fB⟩ := mskF hs (by omega) hsub
        have e1 : (nI (n + 1) - 1) &&& nI s = nI ((n + 1 - 1) &&& s) := by
          rw [show (1 : Int32) = nI 1 from rfl, pk_sub (by omega), nI_and]
        have exx : s ^^^ (s ^^^ (n + 1)) = n + 1 := by rw [← Nat.xor_assoc, Nat.xor_self, Nat.zero_xor]
        have inj : ∀ q, s ^^^ q = n + 1 → q = s ^^^ (n + 1) := fun q h => by rw [← h, ← Nat.xor_assoc, Nat.xor_self, Nat.zero_xor]
        have skip : ¬ sbs k s (s ^^^ (n + 1)) → ∀ {d6 : Value}, pm_Ex ro m_X10_findBills 123 [.ref 33, .int (nI (k + 1)), .int (nI s), .int (nI (256 * (k + 1) + s)), .int (nI s &&& (-nI s)), .int (nI ((n + 1 - 1) &&& s)), d6] [] m Q := by
          intro hno d6
          refine ih _ m (by omega) hnext hck hF hj (hA.cg (fun q => ⟨fun h => ⟨h.1, by omega⟩, fun h => ⟨h.1, ?_⟩⟩))
          have hne : s ^^^ q ≠ n + 1 := fun e => hno (inj q e ▸ h.1)
          omega
        refine bk_X10_findBills_123 ⟨fun q => absurd q (nI_nle (by omega) (by omega)), fun _ => ?_⟩
        rw [e1, fA, mskR hs hsub, show nI (k + 1) - 1 = nI k from nI_pred k, show (256 : Int32) = nI 256 from rfl, pk_mul, nI_add]
        refine ⟨fun q => skip (fun z => q z.2.2.1), fun q => ⟨nI_inb (by omega) (by decide), ?_⟩⟩
        have q := Decidable.of_not_not q
        have hqs : s ^^^ (n + 1) ≤ s := Nat.le_trans (sub_le q) Nat.and_le_left
        have hjj := hj (256 * k + (s ^^^ (n + 1))) (by omega)
        rw [nI_clamp (show 256 * k + (s ^^^ (n + 1)) < 2 ^ 31 by omega), nI_clamp (show n + 1 < 2 ^ 31 by omega), nI_clamp (show 256 * (k + 1) + s < 2 ^ 31 by omega), hjj.1, hjj.2, hF 44 (by decide), h44 (n + 1) hle]
        by_cases hh : hasK' k (s ^^^ (n + 1))
        · have hsb : sbs k s (s ^^^ (n + 1)) := ⟨by omega, fB, q, hh⟩
          obtain ⟨r1, r2⟩ := (hl _ hqs).1 hh
          have hb := (mk_all (tx := tx) (u := u) hO k (by omega) _ fB hh).1
          have hbk : k * 300000 ≤ 3 * 300000 := Nat.mul_le_mul_right _ hk
          have hc := cst_le (tx := tx) (u := u) hO (n + 1)
          have ev : cst tx u lw (n + 1) + mnk tx u lw k (s ^^^ (n + 1)) = mnv tx u lw k s (s ^^^ (n + 1)) := by unfold mnv; rw [exx]
          have ew : cst tx u lw (n + 1) + mxk tx u lw k (s ^^^ (n + 1)) = mxv tx u lw k s (s ^^^ (n + 1)) := by unfold mxv; rw [exx]
          rw [r1, r2, nI_add, nI_add, ev, ew]
          have hv : mnv tx u lw k s (s ^^^ (n + 1)) ≤ 1500000 ∧ mxv tx u lw k s (s ^^^ (n + 1)) ≤ 1500000 := mv_le hO (by omega) hsb
          refine ⟨fun z => absurd z (nI_pos (by omega)), fun _ => ⟨nI_inb (by omega) (by decide), nI_inb (by omega) (by decide), nI_inb (by omega) (by decide), ?_⟩⟩
          -- whatever is kept
          have fin : ∀ (X Y : Int32), X = (if m 42 (256 * (k + 1) + s) ≤ nI (mnv tx u lw k s (s ^^^ (n + 1))) then m 42 (256 * (k + 1) + s) else nI (mnv tx u lw k s (s ^^^ (n + 1)))) → Y = (if nI (mxv tx u lw k s (s ^^^ (n + 1))) ≤ m 43 (256 * (k + 1) + s) then m 43 (256 * (k + 1) + s) else nI (mxv tx u lw k s (s ^^^ (n + 1)))) → ∀ {d6 : Value}, pm_Ex ro m_X10_findBills 123 [.ref 33, .int (nI (k + 1)), .int (nI s), .int (nI (256 * (k + 1) + s)), .int (nI s &&& (-nI s)), .int (nI ((n + 1 - 1) &&& s)), d6] [] (pm_up (pm_up m 42 (256 * (k + 1) + s) X) 43 (256 * (k + 1) + s) Y) Q := by
            intro X Y hX hY d6
            refine ih _ _ (by omega) hnext hck ((hF.up (by decide) _ _).up (by decide) _ _) (fun j hne => ?_) ?_
            · rw [up_n (by decide), up_tj hne, up_tj hne, up_n (by decide)]
              exact hj j hne
            · rw [up_n (by decide), up_tk, up_tk]
              refine (hA.st (q := s ^^^ (n + 1)) (fun r hr => ?_) (by omega) ?_ ?_ ?_ ?_).cg (fun r => ⟨fun h => ?_, fun h => ?_⟩)
              · have := mv_le (tx := tx) (u := u) hO (by omega) hr.1; omega
              · intro z _
                rw [hX, z, show (100000000 : Int32) = nI 100000000 from rfl, if_neg (by rw [nI_leI (by decide) (by omega)]; omega)]
              · intro z _
                rw [hY, z, if_neg]
                intro y
                rw [Int32.le_iff_toInt_le, nI_toInt (by omega), show (-1 : Int32).toInt = -1 from rfl] at y
                omega
              · intro a ha z
                rw [hX, z]
                by_cases hc : a ≤ mnv tx u lw k s (s ^^^ (n + 1))
                · rw [if_pos ((nI_leI ha (by omega)).mpr hc), show min a (mnv tx u lw k s (s ^^^ (n + 1))) = a by omega]
                · rw [if_neg (fun y => hc ((nI_leI ha (by omega)).mp y)), show min a (mnv tx u lw k s (s ^^^ (n + 1))) = mnv tx u lw k s (s ^^^ (n + 1)) by omega]
              · intro b hb z
                rw [hY, z]
                by_cases hc : mxv tx u lw k s (s ^^^ (n + 1)) ≤ b
                · rw [if_pos ((nI_leI (by omega) hb).mpr hc), show max b (mxv tx u lw k s (s ^^^ (n + 1))) = b by omega]
                · rw [if_neg (fun y => hc ((nI_leI (by omega) hb).mp y)), show max b (mxv tx u lw k s (s ^^^ (n + 1))) = mxv tx u lw k s (s ^^^ (n + 1)) by omega]
              · rcases h with h | h
                · exact ⟨h.1, by omega⟩
                · rw [h, exx]; exact ⟨hsb, by omega⟩
              · by_cases e : s ^^^ r = n + 1
                · exact Or.inr (inj r e)
                · exact Or.inl ⟨h.1, by omega⟩
          have i1 : pm_inb (nI (256 * (k + 1) + s)) 1280 = true := nI_inb (by omega) (by decide)
          have i2 : pm_inb (nI (n + 1)) 256 = true := nI_inb (by omega) (by decide)
          have i3 : pm_inb (nI (256 * k + (s ^^^ (n + 1)))) 1280 = true := nI_inb (by omega) (by decide)
          refine ⟨fun y => ⟨i1, i1, i2, i3, i1, fun w => ⟨i1, i1, ?_⟩, fun w => ⟨i2, i3, i1, ?_⟩⟩, fun y => ⟨i2, i3, i1, i2, i3, i1, fun w => ⟨i1, i1, ?_⟩, fun w => ⟨i2, i3, i1, ?_⟩⟩⟩
          · exact fin _ _ (by rw [if_pos y]) (by rw [if_pos w])
          · exact fin _ _ (by rw [if_pos y]) (by rw [if_neg w])
          · exact fin _ _ (by rw [if_neg y]) (by rw [if_pos w])
          · exact fin _ _ (by rw [if_neg y]) (by rw [if_neg w])
        · obtain ⟨r1, r2⟩ := (hl _ hqs).2 hh
          rw [r2]
          exact ⟨fun _ => skip (fun z => hh z.2.2.2), fun z => absurd (by decide) z⟩
      · rw [decide_eq_false hnr] at hck
        simp only [cond_false, Bool.and_eq_true, Bool.not_eq_true', decide_eq_false_iff_not] at hck
        refine ih r m (by omega) (by omega) hck.2 hF hj (hA.cg (fun q => ⟨fun h => ⟨h.1, by omega⟩, fun h => ⟨h.1, ?_⟩⟩))
        have hne : s ^^^ q ≠ n + 1 := fun e => hck.1 (by have := (mskX hs h.1.2.2.1).1; rw [e] at this; exact this)
        omega
  intro d6
  refine key s s m0 hs (Nat.le_refl _) (ckm_0 hs) (Fr.rf _ _) (fun _ _ => ⟨rfl, rfl⟩) (Or.inl ⟨fun q h => ?_, h42, h43⟩)
  have := sub_le (mskX hs h.1.2.2.1).1
  omega
theorem r_findBills (hO : OKL lw) {m0 : pm_M} (hL : LR m0 lw) (hR : GR m0 tx u) (kk : ∀ m : pm_M, Fr [42, 43, 44] m0 m → (∀ j, j ≤ lw 3 → ∀ q, q < 2 ^ pzG tx u → RLv m tx u lw j q) → Q none m) : pm_Ex ro m_X10_findBills 0 [.ref 33, .null, .null, .null, .null, .null, .null] [] m0 Q := by
  have hG := pzG_le tx u
  have hG2 := p2_le hG
  have hG1 := p2_pos (pzG tx u)
  have hl3 := hO.2.2.2.2
  refine bk_X10_findBills_0 ?_
  -- level by level
  have lev : ∀ (c k : Nat) (m : pm_M), k + c = lw 3 → Fr [42, 43, 44] m0 m → (∀ q, q < 2 ^ pzG tx u → m 44 q = nI (cst tx u lw q)) → (∀ j, j ≤ k → ∀ q, q < 2 ^ pzG tx u → RLv m tx u lw j q) → ∀ {d2 d3 d4 d5 d6 : Value}, pm_Ex ro m_X10_findBills 71 [.ref 33, .int (nI (k + 1)), d2, d3, d4, d5, d6] [] m Q := by
    intro c
    induction c with
    | zero =>
      intro k m hk hF h44 hl d2 d3 d4 d5 d6
      refine bk_X10_findBills_71 ?_
      rw [hF 41 (by decide), hL 3 (by decide), nI_ltI (by omega) (by omega)]
      refine ⟨fun _ => ?_, fun q => by omega⟩
      rw [show k = lw 3 by omega] at hl
      exact kk m hF hl
    | succ c ih =>
      intro k m hk hF h44 hl d2 d3 d4 d5 d6
      refine bk_X10_findBills_71 ?_
      rw [hF 41 (by decide), hL 3 (by decide), nI_ltI (by omega) (by omega)]
      refine ⟨fun q => by omega, fun _ => ?_⟩
      have inn : ∀ (e s : Nat) (m : pm_M), s + e = 2 ^ pzG tx u → Fr [42, 43, 44] m0 m → (∀ q, q < 2 ^ pzG tx u → m 44 q = nI (cst tx u lw q)) → (∀ j, j ≤ k → ∀ q, q < 2 ^ pzG tx u → RLv m tx u lw j q) → (∀ q, q < s → RLv m tx u lw (k + 1) q) → ∀ {d3 d4 d5 d6 : Value}, pm_Ex ro m_X10_findBills 83 [.ref 33, .int (nI (k + 1)), .int (nI s), d3, d4, d5, d6] [] m Q := by
        intro e
        induction e with
        | zero =>
          intro s m hs hF h44 hl hl2 d3 d4 d5 d6
          refine bk_X10_findBills_83 ?_
          rw [hF 33 (by decide), hR.1, whl hG]
          refine ⟨fun _ => ?_, fun q => absurd (nI_lt (by omega) (by omega)) q⟩
          rw [nI_1]
          refine ih (k + 1) m (by omega) hF h44 (fun j hj q hq => ?_)
          by_cases ej : j = k + 1
          · rw [ej]; exact hl2 q (by omega)
          · exact hl j (by omega) q hq
        | succ e ihe =>
          intro s m hs hF h44 hl hl2 d3 d4 d5 d6
          refine bk_X10_findBills_83 ?_
          rw [hF 33 (by decide), hR.1, whl hG, show (256 : Int32) = nI 256 from rfl, pk_mul, nI_add, nI_clamp (by omega)]
          refine ⟨fun q => ?_, fun _ => ⟨nI_inb (by omega) (by decide), nI_inb (by omega) (by decide), ?_⟩⟩
          · rw [nI_ltI (by omega) (by omega)] at q; omega
          have keep : ∀ j q, 256 * j + q ≠ 256 * (k + 1) + s → ∀ {x y : Int32}, RLv m tx u lw j q → RLv (pm_up (pm_up m 42 (256 * (k + 1) + s) x) 43 (256 * (k + 1) + s) y) tx u lw j q := by
            intro j q hne x y h
            unfold RLv
            rw [up_n (by decide), up_tj hne, up_tj hne, up_n (by decide)]
            exact h
          refine r_partSet (tx := tx) (u := u) hO (k := k) (s := s) (by omega) (by omega) (fun q hq => ?_) (fun q hq => keep _ _ (by omega) (hl k (Nat.le_refl _) q (by omega))) ?_ ?_ (fun m' g1 g2 g3 => ?_)
          · rw [up_n (by decide), up_n (by decide)]; exact h44 q (by omega)
          · rw [up_n (by decide), up_tk]
          · rw [up_tk]
          · intro x5 d6
            have gRL : ∀ j q, 256 * j + q ≠ 256 * (k + 1) + s → RLv m tx u lw j q → RLv m' tx u lw j q := by
              intro j q hne h
              have h1 := keep j q hne (x := 100000000) (y := -1) h
              unfold RLv at h1 ⊢
              rw [(g2 _ hne).1, (g2 _ hne).2]
              exact h1
            refine ihe (s + 1) m' (by omega) ((((hF.up (by decide) _ _).up (by decide) _ _)).tr (g1.sub (by decide))) (fun q hq => ?_) (fun j hj q hq => gRL j q (by omega) (hl j hj q hq)) (fun q hq => ?_)
            · rw [g1 44 (by decide), up_n (by decide), up_n (by decide)]; exact h44 q hq
            · by_cases eq : q = s
              · rw [eq]; exact g3
              · exact gRL (k + 1) q (by omega) (hl2 q (by omega))
      exact inn (2 ^ pzG tx u) 0 m (Nat.zero_add _) hF h44 hl (fun q hq => by omega)
  -- no bill
  have ini : ∀ (c s : Nat) (m : pm_M), s + c = 2 ^ pzG tx u → Fr [42, 43, 44] m0 m → (∀ q, q < s → m 44 q = nI (cst tx u lw q)) → (∀ q, q < s → RLv m tx u lw 0 q) → pm_Ex ro m_X10_findBills 2 [.ref 33, .int (nI s), .null, .null, .null, .null, .null] [] m Q := by
    intro c
    induction c with
    | zero =>
      intro s m hs hF h44 hl
      refine bk_X10_findBills_2 ?_
      rw [hF 33 (by decide), hR.1, whl hG]
      refine ⟨fun _ => ?_, fun q => absurd (nI_lt (by omega) (by omega)) q⟩
      exact lev (lw 3) 0 m (by omega) hF (fun q hq => h44 q (by omega)) (fun j hj q hq => by rw [show j = 0 by omega]; exact hl q (by omega))
    | succ c ih =>
      intro s m hs hF h44 hl
      have hle := SMt_le tx u s
      refine bk_X10_findBills_2 ?_
      rw [hF 33 (by decide), hR.1, whl hG]
      refine ⟨fun q => ?_, fun _ => ?_⟩
      · rw [nI_ltI (by omega) (by omega)] at q; omega
      refine r_sumOf (hR.fr (hF 33 (by decide)) (hF 39 (by decide))) (by omega) (bk_X10_findBills_21 (pdR hO (hL.fr (hF 41 (by decide))) (by omega) (bk_X10_findBills_24 ⟨nI_inb (by omega) (by decide), nI_inb (by omega) (by decide), nI_inb (by omega) (by decide), ?_⟩)))
      rw [nI_clamp (by omega), hF 41 (by decide), hL 2 (by decide), nI_add, nI_1]
      refine ih (s + 1) _ (by omega) (((hF.up (by decide) _ _).up (by decide) _ _).up (by decide) _ _) (fun q hq => ?_) (fun q hq => ?_)
      · rw [up_n (by decide), up_n (by decide), up_t]
        simp only [upd]
        split
        · next e => rw [e]; rfl
        · exact h44 q (by omega)
      · by_cases eq : q = s
        · subst eq
          unfold RLv
          rw [up_n (by decide), Nat.mul_zero, Nat.zero_add, up_tk, up_tk]
          refine ⟨fun h => ?_, fun h => ?_⟩
          · rcases h with ⟨-, a⟩ | ⟨a, -⟩
            · subst a
              exact ⟨by rw [if_neg (by decide)]; rfl, by rw [if_neg (by decide)]; rfl⟩
            · omega
          · have h0 : ¬ nI q = 0 := fun z => h (Or.inl ⟨rfl, (nI_eq0 (by omega)).mp z⟩)
            exact ⟨by rw [if_pos h0], by rw [if_pos h0]⟩
        · have := hl q (by omega)
          unfold RLv at this ⊢
          rw [up_n (by decide), up_tj (by omega), up_tj (by omega), up_n (by decide), up_n (by decide), up_n (by decide)]
          exact this
  exact ini (2 ^ pzG tx u) 0 m0 (Nat.zero_add _) (Fr.rf _ _) (fun q hq => by omega) (fun q hq => by omega)
end BGR
