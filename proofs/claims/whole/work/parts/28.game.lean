/-! game -/
def gbt (am a : Nat) : Bool := decide (((nI am >>> (nI a &&& 31)) &&& 1) = 1)
theorem gbt_c {am a : Nat} (ha : a < 10) (hm : am < 1024) : ((nI am &&& ((1 : Int32) <<< (nI a &&& 31))) = 0) ↔ gbt am a = false := by
  have key : ∀ a, a < 10 → ∀ m, m < 1024 → (((nI m &&& ((1 : Int32) <<< (nI a &&& 31))) = 0) ↔ gbt m a = false) := by decide +kernel
  exact key a ha am hm
/-- the better of two outcomes -/
def gbe (w : Bool) (o p : Int32) : Bool := bif w then decide (¬ o ≤ p) else decide (¬ p ≤ o)
/-- the best of the first amounts -/
def gbi (am : Nat) (w : Bool) (h : Nat → Int32) : Nat → Nat
  | 0 => 0
  | a + 1 => bif gbt am (a + 1) then (if gbi am w h a = 0 then a + 1 else bif gbe w (h (a + 1)) (h (gbi am w h a)) then a + 1 else gbi am w h a) else gbi am w h a
theorem gbi_le (am : Nat) (w : Bool) (h : Nat → Int32) : ∀ a, gbi am w h a ≤ a := by
  intro a
  induction a with
  | zero => exact Nat.le_refl _
  | succ a ih =>
    simp only [gbi]
    cases gbt am (a + 1) with
    | false => simp only [cond_false]; omega
    | true =>
      simp only [cond_true]
      split
      · exact Nat.le_refl _
      · cases gbe w (h (a + 1)) (h (gbi am w h a)) with
        | false => simp only [cond_false]; omega
        | true => simp only [cond_true]; omega
theorem gbi_congr {am : Nat} {w : Bool} {h h' : Nat → Int32} : ∀ {m : Nat}, (∀ a, 1 ≤ a → a ≤ m → h a = h' a) → gbi am w h m = gbi am w h' m := by
  intro m
  induction m with
  | zero => intro _; rfl
  | succ m ih =>
    intro hh
    simp only [gbi]
    rw [ih (fun a h1 h2 => hh a h1 (by omega)), hh (m + 1) (by omega) (by omega)]
    have := gbi_le am w h' m
    by_cases h0 : gbi am w h' m = 0
    · rw [if_pos h0, if_pos h0]
    · rw [if_neg h0, if_neg h0, hh (gbi am w h' m) (by omega) (by omega)]
theorem gbi_ne (am : Nat) (w : Bool) (h : Nat → Int32) : ∀ a i, 1 ≤ i → i ≤ a → gbt am i = true → gbi am w h a ≠ 0 := by
  intro a
  induction a with
  | zero => intro i h1 h2; omega
  | succ a ih =>
    intro i h1 h2 hb
    simp only [gbi]
    rcases Nat.lt_or_ge a i with z | z
    · have : i = a + 1 := by omega
      subst this
      rw [hb]
      simp only [cond_true]
      split
      · omega
      · cases gbe w (h (a + 1)) (h (gbi am w h a)) with
        | false => simp only [cond_false]; assumption
        | true => simp only [cond_true]; omega
    · have := ih i h1 z hb
      cases gbt am (a + 1) with
      | false => simp only [cond_false]; exact this
      | true =>
        simp only [cond_true]
        rw [if_neg this]
        cases gbe w (h (a + 1)) (h (gbi am w h a)) with
        | false => simp only [cond_false]; exact this
        | true => simp only [cond_true]; omega
theorem gbt_ex {am : Nat} (h1 : am < 1024) (h2 : am % 2 = 0) (h3 : am ≠ 0) : ∃ i, 1 ≤ i ∧ i ≤ 9 ∧ gbt am i = true := by
  have key : ∀ m, m < 1024 → m % 2 = 0 → m ≠ 0 → (gbt m 1 || gbt m 2 || gbt m 3 || gbt m 4 || gbt m 5 || gbt m 6 || gbt m 7 || gbt m 8 || gbt m 9) = true := by decide +kernel
  have k := key am h1 h2 h3
  simp only [Bool.or_eq_true] at k
  rcases k with (((((((k | k) | k) | k) | k) | k) | k) | k) | k
  · exact ⟨1, by decide, by decide, k⟩
  · exact ⟨2, by decide, by decide, k⟩
  · exact ⟨3, by decide, by decide, k⟩
  · exact ⟨4, by decide, by decide, k⟩
  · exact ⟨5, by decide, by decide, k⟩
  · exact ⟨6, by decide, by decide, k⟩
  · exact ⟨7, by decide, by decide, k⟩
  · exact ⟨8, by decide, by decide, k⟩
  · exact ⟨9, by decide, by decide, k⟩
/-- the outcomes, k numbers down from the END -/
def gT (lw : Nat → Nat) (am E : Nat) : Nat → Nat → Bool → Int32
  | 0, n, _ => nI (PD lw n)
  | k + 1, n, w => if n + (k + 1) = E then gT lw am E k (n + gbi am w (fun a => gT lw am E k (n + a) (!w)) 9) (!w) else gT lw am E k n w
theorem gT_ge {lw : Nat → Nat} {am E : Nat} : ∀ k n w, E ≤ n → gT lw am E k n w = nI (PD lw n) := by
  intro k
  induction k with
  | zero => intro n w _; rfl
  | succ k ih => intro n w h; simp only [gT]; rw [if_neg (by omega)]; exact ih n w h
theorem gT_s {lw : Nat → Nat} {am E k n : Nat} {w : Bool} (h : n + (k + 1) ≠ E) : gT lw am E (k + 1) n w = gT lw am E k n w := by simp only [gT]; rw [if_neg h]
theorem gT_n {lw : Nat → Nat} {am E k n : Nat} {w : Bool} (h : n + (k + 1) = E) : gT lw am E (k + 1) n w = gT lw am E k (n + gbi am w (fun a => gT lw am E k (n + a) (!w)) 9) (!w) := by simp only [gT]; rw [if_pos h]
theorem gT_m1 {lw : Nat → Nat} (hO : OKL lw) {am E : Nat} (hE : E ≤ 200) : ∀ k n w, n ≤ 220 → ¬ gT lw am E k n w = -1 := by
  intro k
  induction k with
  | zero =>
    intro n w hn q
    have := PD_lt hO (n := n) (by omega)
    exact fI_ne this q
  | succ k ih =>
    intro n w hn
    by_cases h : n + (k + 1) = E
    · rw [gT_n h]
      have := gbi_le am w (fun a => gT lw am E k (n + a) (!w)) 9
      exact ih _ _ (by omega)
    · rw [gT_s h]; exact ih n w hn
section GAM
variable {ro : pm_RO} {Q : Option Value → pm_M → Prop} {lw : Nat → Nat}
theorem c_ba {mem : pm_M} {T : Nat} (hT : pm_lay[T]? = some (.inl 209)) {am n : Nat} (ham : am < 1024) (hn : n ≤ 199) {w : Bool} {h : Nat → Int32} (hh : ∀ a, 1 ≤ a → a ≤ 9 → mem T (n + a) = h a) (k : Q (some (.int (nI (gbi am w h 9)))) mem) : pm_Ex ro m_X8_bestAmount 0 [.ref T, .int (nI n), .int (nI am), .int (bif w then 1 else 0), .null, .null, .null, .null] [] mem Q := by
  refine bk_X8_bestAmount_0 hT ?_
  have key : ∀ (c a : Nat), a + c = 9 → ∀ {d6 d7 : Value}, pm_Ex ro m_X8_bestAmount 6 [.ref T, .int (nI n), .int (nI am), .int (bif w then 1 else 0), .int (nI (gbi am w h a)), .int (nI (a + 1)), d6, d7] [] mem Q := by
    intro c
    induction c with
    | zero =>
      intro a ha d6 d7
      have : a = 9 := by omega
      subst this
      exact bk_X8_bestAmount_6 hT ⟨fun _ => k, fun q => absurd (by decide) q⟩
    | succ c ih =>
      intro a ha d6 d7
      have hle := gbi_le am w h a
      have key := fun d6 d7 => ih (a + 1) (by omega) (d6 := d6) (d7 := d7)
      simp only [gbi] at key
      refine bk_X8_bestAmount_6 hT ⟨fun q => ?_, fun _ => ⟨fun q => ?_, fun q => ?_⟩⟩
      · rw [show (9 : Int32) = nI 9 from rfl, nI_ltI (by decide) (by omega)] at q; omega
      · rw [gbt_c (by omega) ham] at q
        rw [q] at key
        simp only [cond_false] at key
        rw [nI_1]
        exact key _ _
      · rw [gbt_c (by omega) ham] at q
        have q : gbt am (a + 1) = true := by simpa using q
        rw [q] at key
        simp only [cond_true] at key
        rw [nI_1, nI_add, nI_add, nI_clamp (by omega), nI_clamp (by omega), hh (a + 1) (by omega) (by omega)]
        refine ⟨nI_inb (by omega) (by decide), fun z => ⟨nI_inb (by omega) (by decide), ?_⟩, fun z => ⟨nI_inb (by omega) (by decide), ?_⟩⟩
        · have hw : w = false := by
            cases w with
            | false => rfl
            | true => exact absurd z (by decide)
          subst hw
          have e : (if nI (gbi am false h a) = 0 then nI (a + 1) else (if ¬ (mem T (n + gbi am false h a) ≤ h (a + 1)) then nI (a + 1) else nI (gbi am false h a) : Int32) : Int32) = nI (if gbi am false h a = 0 then a + 1 else bif gbe false (h (a + 1)) (h (gbi am false h a)) then a + 1 else gbi am false h a) := by
            by_cases h0 : gbi am false h a = 0
            · rw [if_pos h0, if_pos ((nI_eq0 (by omega)).mpr h0)]
            · rw [if_neg h0, if_neg (fun q => h0 ((nI_eq0 (by omega)).mp q)), hh _ (by omega) (by omega)]
              simp only [gbe, cond_false]
              by_cases h2 : h (gbi am false h a) ≤ h (a + 1)
              · rw [if_neg (not_not_intro h2), decide_eq_false (not_not_intro h2)]; rfl
              · rw [if_pos h2, decide_eq_true h2]; rfl
          rw [e]
          exact key _ _
        · have hw : w = true := by
            cases w with
            | true => rfl
            | false => exact absurd rfl z
          subst hw
          have e : (if nI (gbi am true h a) = 0 then nI (a + 1) else (if ¬ (h (a + 1) ≤ mem T (n + gbi am true h a)) then nI (a + 1) else nI (gbi am true h a) : Int32) : Int32) = nI (if gbi am true h a = 0 then a + 1 else bif gbe true (h (a + 1)) (h (gbi am true h a)) then a + 1 else gbi am true h a) := by
            by_cases h0 : gbi am true h a = 0
            · rw [if_pos h0, if_pos ((nI_eq0 (by omega)).mpr h0)]
            · rw [if_neg h0, if_neg (fun q => h0 ((nI_eq0 (by omega)).mp q)), hh _ (by omega) (by omega)]
              simp only [gbe, cond_true]
              by_cases h2 : h (a + 1) ≤ h (gbi am true h a)
              · rw [if_neg (not_not_intro h2), decide_eq_false (not_not_intro h2)]; rfl
              · rw [if_pos h2, decide_eq_true h2]; rfl
          rw [e]
          exact key _ _
  exact key 9 0 rfl
/-- the rows of the turns, k numbers down from the END -/
def GI (mem : pm_M) (lw : Nat → Nat) (am E k : Nat) : Prop := ∀ n, E ≤ n + k → n < E + 9 → mem 21 n = gT lw am E k n false ∧ mem 22 n = gT lw am E k n true
theorem c_pdt (hO : OKL lw) {am n E : Nat} (ham : am < 1024) (h2 : am % 2 = 0) (h3 : am ≠ 0) (hE1 : 1 ≤ E) (hE : E ≤ 200) (hn : n < E) {m0 : pm_M} (hL : LC m0 lw) (k : ∀ mem' : pm_M, Fr [21, 22] m0 mem' → GI mem' lw am E (E - n) → Q none mem') : pm_Ex ro m_X8_playDownTo 0 [.ref 20, .int (nI n), .int (nI am), .int (nI E), .null] [] m0 Q := by
  refine bk_X8_playDownTo_0 ?_
  obtain ⟨i, hi1, hi2, hi3⟩ := gbt_ex ham h2 h3
  have hne : ∀ w h, gbi am w h 9 ≠ 0 := fun w h => gbi_ne am w h 9 i hi1 hi2 hi3
  -- the way down
  have dn : ∀ (c j : Nat) (mem : pm_M), j + c = E - n → Fr [21, 22] m0 mem → GI mem lw am E j → pm_Ex ro m_X8_playDownTo 53 [.ref 20, .int (nI n), .int (nI am), .int (nI E), .int (nI (E - j) + (-1))] [] mem Q := by
    intro c
    induction c with
    | zero =>
      intro j mem hj hF hG
      have : j = E - n := by omega
      subst this
      rw [show E - (E - n) = n by omega]
      refine bk_X8_playDownTo_53 ⟨fun _ => k mem hF hG, fun q => absurd ?_ q⟩
      rcases Nat.eq_zero_or_pos n with z | z
      · subst z; decide
      · rw [show nI n + (-1) = nI (n - 1) from by rw [show nI n = nI ((n - 1) + 1) by rw [show n - 1 + 1 = n by omega], pk_m1]]
        exact nI_lt (by omega) (by omega)
    | succ c ih =>
      intro j mem hj hF hG
      rw [show E - j = (E - (j + 1)) + 1 by omega, pk_m1]
      refine bk_X8_playDownTo_53 ⟨fun q => ?_, fun _ => ?_⟩
      · rw [nI_ltI (by omega) (by omega)] at q; omega
      refine c_ba (T := 22) (w := false) (h := fun a => gT lw am E j (E - (j + 1) + a) true) rfl ham (by omega) (fun a h1 h2 => (hG _ (by omega) (by omega)).2) ?_
      have ih' := ih (j + 1)
      generalize hp : E - (j + 1) = p at ih' ⊢
      have hb := gbi_le am false (fun a => gT lw am E j (p + a) true) 9
      have hb1 := hne false (fun a => gT lw am E j (p + a) true)
      refine bk_X8_playDownTo_82 ?_
      rw [nI_add, nI_clamp (by omega), nI_clamp (by omega)]
      rw [(hG (p + gbi am false (fun a => gT lw am E j (p + a) true) 9) (by omega) (by omega)).2]
      refine ⟨nI_inb (by omega) (by decide), nI_inb (by omega) (by decide), ?_⟩
      rw [show gT lw am E j (p + gbi am false (fun a => gT lw am E j (p + a) true) 9) true = gT lw am E (j + 1) p false from (gT_n (w := false) (by omega)).symm]
      refine c_ba (T := 21) (w := true) (h := fun a => gT lw am E j (p + a) false) rfl ham (by omega) (fun a h1 h2 => ?_) ?_
      · rw [up_tj (by omega)]; exact (hG _ (by omega) (by omega)).1
      have hb := gbi_le am true (fun a => gT lw am E j (p + a) false) 9
      have hb1 := hne true (fun a => gT lw am E j (p + a) false)
      refine bk_X8_playDownTo_108 ?_
      rw [nI_add, nI_clamp (by omega), nI_clamp (by omega), up_tj (by omega)]
      rw [(hG (p + gbi am true (fun a => gT lw am E j (p + a) false) 9) (by omega) (by omega)).1]
      refine ⟨nI_inb (by omega) (by decide), nI_inb (by omega) (by decide), ?_⟩
      rw [show gT lw am E j (p + gbi am true (fun a => gT lw am E j (p + a) false) 9) false = gT lw am E (j + 1) p true from (gT_n (w := true) (by omega)).symm]
      refine ih' _ (by omega) ((hF.up (by decide) _ _).up (by decide) _ _) (fun q h1 h2 => ?_)
      by_cases hq : q = p
      · subst hq
        rw [up_n (by decide), up_tk, up_tk]
        exact ⟨rfl, rfl⟩
      · rw [up_n (by decide), up_tj hq, up_tj hq, up_n (by decide), gT_s (by omega), gT_s (by omega)]
        exact hG q (by omega) h2
  -- beyond the END
  have up : ∀ (c j : Nat) (mem : pm_M), j + c = 9 → Fr [21, 22] m0 mem → (∀ q, E ≤ q → q < E + j → mem 21 q = nI (PD lw q) ∧ mem 22 q = nI (PD lw q)) → pm_Ex ro m_X8_playDownTo 3 [.ref 20, .int (nI n), .int (nI am), .int (nI E), .int (nI (E + j))] [] mem Q := by
    intro c
    induction c with
    | zero =>
      intro j mem hj hF hG
      have : j = 9 := by omega
      subst this
      refine bk_X8_playDownTo_3 ⟨fun _ => ?_, fun q => absurd (by rw [show (9 : Int32) = nI 9 from rfl, nI_add]; exact nI_le (Nat.le_refl _) (by omega)) q⟩
      have := dn (E - n) 0 mem (by omega) hF (fun q h1 h2 => hG q (by omega) h2)
      rw [Nat.sub_zero] at this
      rw [show nI E - 1 = nI E + (-1) from Int32.sub_eq_add_neg _ _]
      exact this
    | succ c ih =>
      intro j mem hj hF hG
      refine bk_X8_playDownTo_3 ⟨fun q => ?_, fun _ => ?_⟩
      · rw [show (9 : Int32) = nI 9 from rfl, nI_add, nI_leI (by omega) (by omega)] at q; omega
      refine pdC hO (hL.fr (hF 2 (by decide))) (by omega) ?_
      refine bk_X8_playDownTo_27 ⟨nI_inb (by omega) (by decide), nI_inb (by omega) (by decide), nI_inb (by omega) (by decide), ?_⟩
      rw [nI_clamp (by omega), up_tk, nI_1]
      refine ih (j + 1) _ (by omega) ((hF.up (by decide) _ _).up (by decide) _ _) (fun q h1 h2 => ?_)
      by_cases hq : q = E + j
      · subst hq
        rw [up_n (by decide), up_tk, up_tk]
        exact ⟨rfl, rfl⟩
      · rw [up_n (by decide), up_tj hq, up_tj hq, up_n (by decide)]
        exact hG q h1 (by omega)
  exact up 9 0 m0 (by decide) (Fr.rf _ _) (fun q h1 h2 => by omega)
/-- the amounts, as the class and as the reference test them -/
theorem gam_ok (x : Int32) : (¬ x = 0 ∧ (x &&& (-1023)) = 0) ↔ ∃ am, am < 1024 ∧ am % 2 = 0 ∧ am ≠ 0 ∧ x = nI am := by
  have key : ∀ m, m < 1024 → ((nI m &&& (-1023)) = 0 ↔ m % 2 = 0) := by decide +kernel
  constructor
  · rintro ⟨h0, h1⟩
    have e : x = x &&& 1022 := by
      apply Int32.toBitVec_inj.mp
      have h1' : x.toBitVec &&& (-1023 : Int32).toBitVec = 0#32 := by
        have := congrArg Int32.toBitVec h1
        simpa using this
      rw [Int32.toBitVec_and]
      apply BitVec.eq_of_getLsbD_eq
      intro i hi
      have hk : ∀ i, i < 32 → (-1023 : Int32).toBitVec.getLsbD i = !(1022 : Int32).toBitVec.getLsbD i := by decide
      have h2 := congrArg (fun b => b.getLsbD i) h1'
      simp only [BitVec.getLsbD_and, hk i hi] at h2
      rw [BitVec.getLsbD_and]
      cases hx : x.toBitVec.getLsbD i with
      | false => rfl
      | true =>
        rw [hx] at h2
        cases hz : (1022 : Int32).toBitVec.getLsbD i with
        | true => rfl
        | false => rw [hz] at h2; simp at h2
    have hj : ∃ j, j < 1024 ∧ x = nI j := by
      refine ⟨(x.toBitVec &&& 1022#32).toNat, ?_, ?_⟩
      · rw [BitVec.toNat_and]
        exact Nat.lt_of_le_of_lt Nat.and_le_right (by decide)
      · apply Int32.toBitVec_inj.mp
        rw [e]
        apply BitVec.eq_of_toNat_eq
        rw [pk_tn (BitVec.isLt _), ← e, e, Int32.toBitVec_and]
        simp [BitVec.and_assoc]
    obtain ⟨j, hj, rfl⟩ := hj
    exact ⟨j, hj, (key j hj).mp h1, fun q => h0 (by rw [q]; rfl), rfl⟩
  · rintro ⟨am, h1, h2, h3, rfl⟩
    exact ⟨nI_ne0 (by omega) (by omega), (key am h1).mpr h2⟩
theorem gam_ok' (x : Int32) : ((2 ≤ x ∧ x ≤ 1022) ∧ (x - x / 2 * 2) = 0) ↔ ∃ am, am < 1024 ∧ am % 2 = 0 ∧ am ≠ 0 ∧ x = nI am := by
  constructor
  · rintro ⟨⟨h0, h1⟩, h2⟩
    have h0' : 0 ≤ x := by
      rw [Int32.le_iff_toInt_le] at h0 ⊢
      have : (2 : Int32).toInt = 2 := rfl
      have : (0 : Int32).toInt = 0 := rfl
      omega
    obtain ⟨j, hj, rfl⟩ := rng' (n := 1022) (by decide) ⟨h0', h1⟩
    rw [show (2 : Int32) = nI 2 from rfl, nI_leI (by decide) (by omega)] at h0
    rw [show (2 : Int32) = nI 2 from rfl, pk_rem (by omega) (by decide) (by decide), nI_eq0 (by omega)] at h2
    exact ⟨j, by omega, h2, by omega, rfl⟩
  · rintro ⟨am, h1, h2, h3, rfl⟩
    refine ⟨⟨?_, ?_⟩, ?_⟩
    · rw [show (2 : Int32) = nI 2 from rfl, nI_leI (by decide) (by omega)]; omega
    · rw [show (1022 : Int32) = nI 1022 from rfl, nI_leI (by omega) (by decide)]; omega
    · rw [show (2 : Int32) = nI 2 from rfl, pk_rem (by omega) (by decide) (by decide), h2]; rfl
/-- what is told of a game that is played -/
def gamS (lw : Nat → Nat) (n am E what : Nat) : Int32 := if E ≤ n then (if what = 0 then nI (PD lw n) else 0) else if what = 0 then gT lw am E (E - n) n false else nI (gbi am false (fun a => gT lw am E (E - n) (n + a) true) 9)
theorem r_value (hO : OKL lw) {mem : pm_M} (hL : LR mem lw) {n E am j : Nat} (hE : E ≤ 200) {w : Bool} (hn : n ≤ 209) (h48 : E ≤ n + j) (h : n < E → mem 48 (2 * n + (bif w then 1 else 0)) = gT lw am E j n w) (k : Q (some (.int (gT lw am E j n w))) mem) : pm_Ex ro m_X10_value 0 [.ref 33, .int (nI n), .int (bif w then 1 else 0), .int (nI E)] [] mem Q := by
  have e : (2 * nI n + (bif w then 1 else 0 : Int32)) = nI (2 * n + (bif w then 1 else 0)) := by
    rw [show (2 : Int32) = nI 2 from rfl, pk_mul]
    cases w <;> rw [← nI_add] <;> rfl
  have hb : (bif w then 1 else 0 : Nat) ≤ 1 := by cases w <;> decide
  refine bk_X10_value_0 ⟨fun q => ?_, fun q => ?_⟩
  · rw [nI_ltI (by omega) (by omega)] at q
    rw [e, nI_clamp (by omega), h q]
    exact ⟨nI_inb (by omega) (by decide), k⟩
  · rw [nI_ltI (by omega) (by omega)] at q
    refine pdR hO hL (by omega) (bk_X10_value_10 ?_)
    rw [gT_ge _ _ _ (by omega)] at k
    exact k
theorem r_gameOf (hO : OKL lw) {am n E what : Nat} (ham : am < 1024) (h2 : am % 2 = 0) (h3 : am ≠ 0) (hE1 : 1 ≤ E) (hE : E ≤ 200) (hn : n ≤ 200) (hw : what ≤ 1) {m0 : pm_M} (hL : LR m0 lw) (k : ∀ mem' : pm_M, Fr [48] m0 mem' → Q (some (.int (gamS lw n am E what))) mem') : pm_Ex ro m_X10_gameOf 0 [.ref 33, .int (nI n), .int (nI am), .int (nI E), .int (nI what), .null, .null, .null, .null, .null, .null, .null, .null] [] m0 Q := by
  unfold gamS at k
  obtain ⟨i, hi1, hi2, hi3⟩ := gbt_ex ham h2 h3
  have hne : ∀ w h, gbi am w h 9 ≠ 0 := fun w h => gbi_ne am w h 9 i hi1 hi2 hi3
  refine bk_X10_gameOf_0 ⟨fun q => ?_, fun q => ⟨fun q0 => ?_, fun q0 => ?_⟩⟩
  · rw [nI_ltI (by omega) (by omega)] at q
    rw [if_neg (by omega)] at k
    have dn : ∀ (c j : Nat) (mem : pm_M) (x5 : Int32), j + c = E - n → Fr [48] m0 mem → (∀ p w, E ≤ p + j → p < E → mem 48 (2 * p + (bif w then 1 else 0)) = gT lw am E j p w) → (1 ≤ j → x5 = nI (gbi am false (fun a => gT lw am E j (E - j + a) true) 9)) → ∀ {d7 d8 d9 d10 d11 d12 : Value}, pm_Ex ro m_X10_gameOf 28 [.ref 33, .int (nI n), .int (nI am), .int (nI E), .int (nI what), .int x5, .int (nI (E - j) + (-1)), d7, d8, d9, d10, d11, d12] [] mem Q := by
      intro c
      induction c with
      | zero =>
        intro j mem x5 hj hF h48 h5 d7 d8 d9 d10 d11 d12
        have : j = E - n := by omega
        subst this
        have h5 := h5 (by omega)
        rw [show E - (E - n) = n by omega] at h5 ⊢
        refine bk_X10_gameOf_28 ⟨fun _ => ⟨fun z => ?_, fun z => ?_⟩, fun z => absurd ?_ z⟩
        · rw [nI_eq0 (by omega)] at z
          have := k mem hF
          rw [if_neg z] at this
          rw [h5]
          exact this
        · have z := Decidable.of_not_not z
          rw [nI_eq0 (by omega)] at z
          have := k mem hF
          rw [if_pos z] at this
          rw [show (2 : Int32) = nI 2 from rfl, pk_mul, nI_clamp (by omega)]
          have h := h48 n false (by omega) q
          simp only [cond_false, Nat.add_zero] at h
          rw [h]
          exact ⟨nI_inb (by omega) (by decide), this⟩
        · rcases Nat.eq_zero_or_pos n with z | z
          · subst z; decide
          · rw [show nI n + (-1) = nI (n - 1) from by rw [show nI n = nI ((n - 1) + 1) by rw [show n - 1 + 1 = n by omega], pk_m1]]
            exact nI_lt (by omega) (by omega)
      | succ c ih =>
        intro j mem x5 hj hF h48 h5 d7 d8 d9 d10 d11 d12
        rw [show E - j = (E - (j + 1)) + 1 by omega, pk_m1]
        have ih' := ih (j + 1)
        generalize hp : E - (j + 1) = p at ih' ⊢
        refine bk_X10_gameOf_28 ⟨fun z => ?_, fun _ => ?_⟩
        · rw [nI_ltI (by omega) (by omega)] at z; omega
        -- one who adds
        have one : ∀ (w : Bool) (mem : pm_M) (x5 : Int32), Fr [48] m0 mem → (∀ p v, E ≤ p + j → p < E → mem 48 (2 * p + (bif v then 1 else 0)) = gT lw am E j p v) →
            (∀ {d8 d9 d10 d11 d12 : Value}, pm_Ex ro m_X10_gameOf 37 [.ref 33, .int (nI n), .int (nI am), .int (nI E), .int (nI what), .int (if w then x5 else nI (gbi am w (fun a => gT lw am E j (p + a) (!w)) 9)), .int (nI p), .int ((bif w then 1 else 0 : Int32) + 1), d8, d9, d10, d11, d12] [] (pm_up mem 48 (2 * p + (bif w then 1 else 0)) (gT lw am E (j + 1) p w)) Q) →
            ∀ {d8 d9 d10 d11 d12 : Value}, pm_Ex ro m_X10_gameOf 37 [.ref 33, .int (nI n), .int (nI am), .int (nI E), .int (nI what), .int x5, .int (nI p), .int (bif w then 1 else 0), d8, d9, d10, d11, d12] [] mem Q := by
          intro w mem x5 hF h48 kk d8 d9 d10 d11 d12
          refine bk_X10_gameOf_37 ⟨fun z => ?_, fun _ => ?_⟩
          · cases w <;> exact absurd z (by decide)
          have go : ∀ (e a : Nat), a + e = 9 → ∀ {d11 d12 : Value}, pm_Ex ro m_X10_gameOf 52 [.ref 33, .int (nI n), .int (nI am), .int (nI E), .int (nI what), .int x5, .int (nI p), .int (bif w then 1 else 0), .int (if gbi am w (fun a => gT lw am E j (p + a) (!w)) a = 0 then -1 else gT lw am E j (p + gbi am w (fun a => gT lw am E j (p + a) (!w)) a) (!w)), .int (nI (gbi am w (fun a => gT lw am E j (p + a) (!w)) a)), .int (nI (a + 1)), d11, d12] [] mem Q := by
            intro e
            induction e with
            | zero =>
              intro a ha d11 d12
              have : a = 9 := by omega
              subst this
              refine bk_X10_gameOf_52 ⟨fun _ => ?_, fun z => absurd (by decide) z⟩
              have e1 : (2 * nI p + (bif w then 1 else 0 : Int32)) = nI (2 * p + (bif w then 1 else 0)) := by
                rw [show (2 : Int32) = nI 2 from rfl, pk_mul]
                cases w <;> rw [← nI_add] <;> rfl
              have hb : (bif w then 1 else 0 : Nat) ≤ 1 := by cases w <;> decide
              rw [if_neg (hne _ _), e1, nI_clamp (by omega), ← gT_n (w := w) (by omega)]
              refine ⟨nI_inb (by omega) (by decide), ?_⟩
              have e2 : (if ¬ (bif w then 1 else 0 : Int32) = 0 then x5 else nI (gbi am w (fun a => gT lw am E j (p + a) (!w)) 9) : Int32) = (if w then x5 else nI (gbi am w (fun a => gT lw am E j (p + a) (!w)) 9)) := by
                cases w with
                | false => rfl
                | true => rfl
              rw [e2]
              exact kk
            | succ e ihe =>
              intro a ha d11 d12
              have kk2 := fun d11 d12 => ihe (a + 1) (by omega) (d11 := d11) (d12 := d12)
              simp only [gbi] at kk2
              have hle := gbi_le am w (fun a => gT lw am E j (p + a) (!w)) a
              refine bk_X10_gameOf_52 ⟨fun z => ?_, fun _ => ⟨fun z => ?_, fun z => ?_⟩⟩
              · rw [show (10 : Int32) = nI 10 from rfl, nI_leI (by decide) (by omega)] at z; omega
              · have hb : gbt am (a + 1) = true := decide_eq_true (Decidable.of_not_not z)
                rw [hb] at kk2
                simp only [cond_true] at kk2
                rw [nI_add, show (1 - (bif w then 1 else 0) : Int32) = (bif !w then 1 else 0) by cases w <;> rfl]
                refine r_value (w := !w) (j := j) (am := am) hO (hL.fr (hF 41 (by decide))) hE (by omega) (by omega) (fun z => h48 _ _ (by omega) z) ?_
                refine bk_X10_gameOf_82 ?_
                generalize gbi am w (fun a => gT lw am E j (p + a) (!w)) a = b at kk2 hle ⊢
                rw [nI_1]
                by_cases hb0 : b = 0
                · rw [if_pos hb0, if_neg (by omega)] at kk2
                  rw [if_pos hb0, if_pos rfl, if_neg (by decide), if_neg (by decide)]
                  exact kk2 _ _
                · have hm1 := gT_m1 hO (am := am) hE j (p + b) (!w) (by omega)
                  rw [if_neg hb0] at kk2
                  rw [if_neg hb0, if_neg hm1]
                  cases w with
                  | false =>
                    rw [if_neg (show ¬ ¬ ((bif false then 1 else 0 : Int32) = 0) from not_not_intro rfl)]
                    by_cases h2 : gT lw am E j (p + b) (!false) ≤ gT lw am E j (p + (a + 1)) (!false)
                    · rw [zb_npos h2, if_pos rfl, if_pos rfl]
                      have hg : gbe false (gT lw am E j (p + (a + 1)) (!false)) (gT lw am E j (p + b) (!false)) = false := decide_eq_false (not_not_intro h2)
                      rw [hg] at kk2
                      simp only [cond_false, if_neg hb0] at kk2
                      exact kk2 _ _
                    · rw [zb_nneg h2, if_neg (by decide), if_neg (by decide)]
                      have hg : gbe false (gT lw am E j (p + (a + 1)) (!false)) (gT lw am E j (p + b) (!false)) = true := decide_eq_true h2
                      rw [hg] at kk2
                      simp only [cond_true] at kk2
                      rw [if_neg (by omega)] at kk2
                      exact kk2 _ _
                  | true =>
                    rw [if_pos (show ¬ ((bif true then 1 else 0 : Int32) = 0) by decide)]
                    by_cases h2 : gT lw am E j (p + (a + 1)) (!true) ≤ gT lw am E j (p + b) (!true)
                    · rw [zb_npos h2, if_pos rfl, if_pos rfl]
                      have hg : gbe true (gT lw am E j (p + (a + 1)) (!true)) (gT lw am E j (p + b) (!true)) = false := decide_eq_false (not_not_intro h2)
                      rw [hg] at kk2
                      simp only [cond_false, if_neg hb0] at kk2
                      exact kk2 _ _
                    · rw [zb_nneg h2, if_neg (by decide), if_neg (by decide)]
                      have hg : gbe true (gT lw am E j (p + (a + 1)) (!true)) (gT lw am E j (p + b) (!true)) = true := decide_eq_true h2
                      rw [hg] at kk2
                      simp only [cond_true] at kk2
                      rw [if_neg (by omega)] at kk2
                      exact kk2 _ _
              · have hb : gbt am (a + 1) = false := decide_eq_false (Decidable.of_not_not z)
                rw [hb] at kk2
                simp only [cond_false] at kk2
                rw [nI_1]
                exact kk2 _ _
          exact go 9 0 rfl
        have hlt : ∀ {q : Nat} {v v' : Bool}, q ≠ p → 2 * q + (bif v then 1 else 0) ≠ 2 * p + (bif v' then 1 else 0) := by
          intro q v v' h
          cases v <;> cases v' <;> simp only [cond_true, cond_false] <;> omega
        refine one false mem x5 hF h48 ?_
        intro d8 d9 d10 d11 d12
        refine one true _ _ (hF.up (by decide) _ _) (fun q v h1 h2 => ?_) ?_
        · rw [up_tj (hlt (by omega))]; exact h48 q v h1 h2
        intro d8 d9 d10 d11 d12
        refine bk_X10_gameOf_37 ⟨fun _ => ?_, fun z => absurd (by decide) z⟩
        refine ih' _ _ (by omega) ((hF.up (by decide) _ _).up (by decide) _ _) (fun q v h1 h2 => ?_) (fun _ => ?_)
        · by_cases hq : q = p
          · subst hq
            cases v with
            | true => rw [up_tk]
            | false => rw [up_tj (by simp), up_tk]
          · rw [up_tj (hlt hq), up_tj (hlt hq), gT_s (by omega)]
            exact h48 q v (by omega) h2
        · rw [if_pos rfl, if_neg (by decide)]
          congr 1
          refine gbi_congr (fun a h1 h2 => ?_)
          exact (gT_s (w := true) (by omega)).symm
    have := dn (E - n) 0 m0 0 (by omega) (Fr.rf _ _) (fun p w h1 h2 => by omega) (fun h => by omega) (d7 := .null) (d8 := .null) (d9 := .null) (d10 := .null) (d11 := .null) (d12 := .null)
    rw [Nat.sub_zero] at this
    rw [show nI E - 1 = nI E + (-1) from Int32.sub_eq_add_neg _ _]
    exact this
  · rw [nI_ltI (by omega) (by omega)] at q
    rw [nI_eq0 (by omega)] at q0
    rw [if_pos (by omega), if_neg q0] at k
    exact k m0 (Fr.rf _ _)
  · rw [nI_ltI (by omega) (by omega)] at q
    have q0 := Decidable.of_not_not q0
    rw [nI_eq0 (by omega)] at q0
    rw [if_pos (by omega), if_pos q0] at k
    exact pdR hO hL (by omega) (bk_X10_gameOf_15 (k m0 (Fr.rf _ _)))
end GAM
section GAMA
variable {ro : pm_RO} {tx : Nat → Nat} {u : Nat} {lw ow : Nat → Nat} {sf : Nat → Int32} {sl : Nat → Nat} {si : Nat → Nat → Int32} {lt : Int32}
def gamB (a b c d : Int32) : Prop := (0 ≤ a ∧ a ≤ 200) ∧ ((2 ≤ b ∧ b ≤ 1022) ∧ (b - b / 2 * 2) = 0) ∧ (1 ≤ c ∧ c ≤ 200) ∧ 0 ≤ d ∧ d ≤ 1
def gamA (lw : Nat → Nat) (a b c d : Int32) : Int32 := if (0 ≤ a ∧ a ≤ 200) ∧ ((2 ≤ b ∧ b ≤ 1022) ∧ (b - b / 2 * 2) = 0) ∧ (1 ≤ c ∧ c ≤ 200) ∧ 0 ≤ d ∧ d ≤ 1 then gamS lw a.toNatClampNeg b.toNatClampNeg c.toNatClampNeg d.toNatClampNeg else -2
theorem c_game (hO : OKL lw) {mem : pm_M} {Q : Option Value → pm_M → Prop} (hI : IC mem tx u lw ow sf sl si lt) {a b c d : Int32} (k : ∀ mem' : pm_M, Fr CT mem mem' → IC mem' tx u lw ow sf sl si lt → Q (some (.int (gamA lw a b c d))) mem') : pm_Ex ro m_X9_game 0 [.ref 0, .int a, .int b, .int c, .int d, .null] [] mem Q := by
  unfold gamA at k
  have bad : ¬ ((0 ≤ a ∧ a ≤ 200) ∧ ((2 ≤ b ∧ b ≤ 1022) ∧ (b - b / 2 * 2) = 0) ∧ (1 ≤ c ∧ c ≤ 200) ∧ 0 ≤ d ∧ d ≤ 1) → Q (some (.int (-2))) mem := fun h => by
    rw [if_neg h] at k; exact k mem (Fr.rf _ _) hI
  refine bk_X9_game_0 ⟨fun h1 => ⟨fun h2 => ⟨fun h3 => ⟨fun h4 => ?_, fun h4 => ⟨fun h5 => ?_, fun h5 => ?_⟩⟩, fun h3 => ?_⟩, fun h2 => ⟨fun _ => ?_, fun q => absurd rfl q⟩⟩, fun h1 => ⟨fun _ => ?_, fun q => absurd rfl q⟩⟩
  · exact bad (fun q => ((gam_ok b).mpr ((gam_ok' b).mp q.2.1)).1 h4)
  · have g1 := rng_iff.mp h1
    have g2 := rng_iff.mp h2
    have g3 := rng_iff.mp h3
    have gb := (gam_ok b).mp ⟨h4, h5⟩
    rw [if_pos ⟨g1, (gam_ok' b).mpr gb, g2, g3⟩] at k
    obtain ⟨am, ha1, ha2, ha3, rfl⟩ := gb
    obtain ⟨n, hn, rfl⟩ := rng' (n := 200) (by decide) g1
    obtain ⟨E, hE1, hE, rfl⟩ := rng1 (n := 200) (by decide) g2
    obtain ⟨w, hw, rfl⟩ := rng' (n := 1) (by decide) g3
    rw [nI_clamp (by omega), nI_clamp (by omega), nI_clamp (by omega), nI_clamp (by omega)] at k
    unfold gamS at k
    refine ⟨fun q => ?_, fun q => ⟨fun q0 => ?_, fun q0 => ?_⟩⟩
    · rw [nI_ltI (by omega) (by omega)] at q
      refine c_pdt hO ha1 ha2 ha3 hE1 hE q hI.2.2.1 (fun m' f1 f2 => ?_)
      have kk := k m' (f1.CT (by decide)) (hI.scr f1 (by decide))
      rw [if_neg (by omega)] at kk
      refine bk_X9_game_92 ⟨fun z => ?_, fun z => ?_⟩
      · rw [nI_eq0 (by omega)] at z
        rw [if_neg z] at kk
        refine bk_X8_firstAmount_0 (c_ba (T := 22) (w := false) (h := fun a => gT lw am E (E - n) (n + a) true) rfl ha1 (by omega) (fun a q1 q2 => (f2 _ (by omega) (by omega)).2) (bk_X8_firstAmount_10 (bk_X9_game_117 ?_)))
        exact kk
      · have z := Decidable.of_not_not z
        rw [nI_eq0 (by omega)] at z
        rw [if_pos z] at kk
        rw [nI_clamp (by omega), (f2 n (by omega) (by omega)).1]
        exact ⟨nI_inb (by omega) (by decide), kk⟩
    · rw [nI_ltI (by omega) (by omega)] at q
      rw [nI_eq0 (by omega)] at q0
      rw [if_pos (by omega), if_neg q0] at k
      exact k mem (Fr.rf _ _) hI
    · rw [nI_ltI (by omega) (by omega)] at q
      have q0 := Decidable.of_not_not q0
      rw [nI_eq0 (by omega)] at q0
      rw [if_pos (by omega), if_pos q0] at k
      exact pdC hO hI.2.2.1 (by omega) (bk_X9_game_77 (k mem (Fr.rf _ _) hI))
  · exact bad (fun q => h5 ((gam_ok b).mpr ((gam_ok' b).mp q.2.1)).2)
  · exact bad (fun q => h3 (rng_iff.mpr q.2.2.2))
  · exact bad (fun q => h2 (rng_iff.mpr q.2.2.1))
  · exact bad (fun q => h1 (rng_iff.mpr q.1))
theorem ag_game (hO : OK lw ow sf sl) (a b c d : Int32) : AGi ro m_X9_game [.ref 0, .int a, .int b, .int c, .int d, .null] m_X10_game [.ref 33, .int a, .int b, .int c, .int d, .null] (tx, u, lw, ow, sf, sl, si, lt) := by
  refine ⟨gamA lw a b c d, (tx, u, lw, ow, sf, sl, si, lt), hO, fun m Q hI k => c_game hO.1 hI k, fun m Q hI k => ?_⟩
  have hI : IR m tx u lw ow sf sl si lt := hI
  unfold gamA at k
  have bad : ¬ ((0 ≤ a ∧ a ≤ 200) ∧ ((2 ≤ b ∧ b ≤ 1022) ∧ (b - b / 2 * 2) = 0) ∧ (1 ≤ c ∧ c ≤ 200) ∧ 0 ≤ d ∧ d ≤ 1) → Q (some (.int (-2))) m := fun h => by
    rw [if_neg h] at k; exact k m (Fr.rf _ _) hI
  refine bk_X10_game_0 ⟨fun h1 => ⟨fun h2 => ⟨fun h3 => ⟨fun _ => ?_, fun q => absurd rfl q⟩, fun h3 => ⟨fun h4 => ⟨fun h5 => ?_, fun h5 => ?_⟩, fun h4 => ⟨fun _ => ?_, fun q => absurd rfl q⟩⟩⟩, fun h2 => ⟨fun _ => ?_, fun q => absurd rfl q⟩⟩, fun h1 => ⟨fun _ => ?_, fun q => absurd rfl q⟩⟩
  · exact bad (fun q => h3 q.2.1.2)
  · have gb := (gam_ok' b).mp ⟨h2, Decidable.of_not_not h3⟩
    rw [if_pos ⟨h1, (gam_ok' b).mpr gb, h4, h5⟩] at k
    obtain ⟨am, ha1, ha2, ha3, rfl⟩ := gb
    obtain ⟨n, hn, rfl⟩ := rng' (n := 200) (by decide) h1
    obtain ⟨E, hE1, hE, rfl⟩ := rng1 (n := 200) (by decide) h4
    obtain ⟨w, hw, rfl⟩ := rng' (n := 1) (by decide) h5
    rw [nI_clamp (by omega), nI_clamp (by omega), nI_clamp (by omega), nI_clamp (by omega)] at k
    refine r_gameOf hO.1 ha1 ha2 ha3 hE1 hE hn hw hI.2.1 (fun m' f1 => bk_X10_game_73 ?_)
    exact k m' (f1.RT (by decide)) (hI.scr f1 (by decide))
  · exact bad (fun q => h5 q.2.2.2)
  · exact bad (fun q => h4 q.2.2.1)
  · exact bad (fun q => h2 q.2.1.1)
  · exact bad (fun q => h1 q.1)
end GAMA
