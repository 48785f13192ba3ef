/-! rounds -/
def rs (lw : Nat → Nat) (c p : Nat) : Nat → Nat
  | 0 => p
  | i + 1 => PD lw (rs lw c p i - c)
/-- how many ROUNDS, f more at most -/
def rmd (lw : Nat → Nat) (c p : Nat) : Nat → Nat → Nat
  | 0, i => i
  | f + 1, i => if rs lw c p i < c then i else rmd lw c p f (i + 1)
def hasK (g : Nat → Nat) : Nat → Nat → Bool
  | 0, _ => false
  | k + 1, v => hasK g k v || decide (g k = v)
/-- the first ROUND up to i that comes round (0: none) -/
def cm (g : Nat → Nat) : Nat → Nat
  | 0 => 0
  | i + 1 => if cm g i = 0 then (bif hasK g (i + 1) (g (i + 1)) then i + 1 else 0) else cm g i
def cmI (n : Nat) : Int32 := if n = 0 then -1 else nI n
theorem cm_stay {g : Nat → Nat} {i : Nat} (h : ¬ cm g i = 0) : ∀ d, cm g (i + d) = cm g i := by
  intro d
  induction d with
  | zero => rfl
  | succ d ih =>
    rw [← Nat.add_assoc]
    simp only [cm]
    rw [ih, if_neg h]
theorem b_pow {b : Nat} (h2 : 2 ≤ b) (h36 : b ≤ 36) : ∃ d, 9999 < b ^ d ∧ b ^ d ≤ 360000 := by
  have key : ∀ b, b < 37 → 2 ≤ b → ∃ d, d < 15 ∧ 9999 < b ^ d ∧ b ^ d ≤ 360000 := by decide +kernel
  obtain ⟨d, -, h⟩ := key b (by omega) h2
  exact ⟨d, h⟩
theorem rs_lt {lw : Nat → Nat} (hO : OKL lw) {c p : Nat} (hp : p ≤ 9999) (i : Nat) : rs lw c p i < 360000 := by
  obtain ⟨d, h1, h2⟩ := b_pow hO.1 hO.2.1
  have key : rs lw c p i < lw 0 ^ d := by
    induction i with
    | zero => exact Nat.lt_of_le_of_lt hp h1
    | succ i ih => exact paid_pow hO.1 (lw 1) (Nat.lt_of_le_of_lt (Nat.sub_le _ _) ih)
  omega
theorem PD_9999 {lw : Nat → Nat} (hO : OKL lw) {n : Nat} (hn : n ≤ 9999) : PD lw n < 360000 := by
  obtain ⟨d, h1, h2⟩ := b_pow hO.1 hO.2.1
  have := paid_pow (d := d) hO.1 (lw 1) (show n < lw 0 ^ d by omega)
  unfold PD; omega
theorem rmd_s (lw : Nat → Nat) (c p f i : Nat) : rmd lw c p (f + 1) i = if rs lw c p i < c then i else rmd lw c p f (i + 1) := rfl
theorem rmd_le (lw : Nat → Nat) (c p : Nat) : ∀ f i, i ≤ rmd lw c p f i ∧ rmd lw c p f i ≤ i + f := by
  intro f
  induction f with
  | zero => intro i; exact ⟨Nat.le_refl _, Nat.le_refl _⟩
  | succ f ih =>
    intro i
    simp only [rmd]
    split
    · omega
    · have := ih (i + 1); omega
section RND
variable {ro : pm_RO} {Q : Option Value → pm_M → Prop} {lw : Nat → Nat}
theorem c_payOn (hO : OKL lw) {p n : Nat} (hp : p ≤ 9999) (hn : n ≤ 9999) {m0 : pm_M} (hL : LC m0 lw) (k : ∀ mem' : pm_M, Fr [13, 14] m0 mem' → mem' 13 2 = nI (rmd lw (PD lw n) p 200 0) → (∀ j, j ≤ rmd lw (PD lw n) p 200 0 → mem' 14 j = nI (rs lw (PD lw n) p j)) → Q none mem') : pm_Ex ro m_X5_payOn 0 [.ref 13, .int (nI p), .int (nI n), .null] [] m0 Q := by
  refine bk_X5_payOn_0 ?_
  refine pdC hO hL (by omega) ?_
  refine bk_X5_payOn_8 ?_
  have hc := PD_9999 hO hn
  generalize PD lw n = c at k hc ⊢
  have key : ∀ (f i : Nat) (mem : pm_M), i + f = 200 → rmd lw c p f i = rmd lw c p 200 0 → Fr [13, 14] m0 mem → mem 13 2 = nI i → (∀ j, j ≤ i → mem 14 j = nI (rs lw c p j)) → pm_Ex ro m_X5_payOn 21 [.ref 13, .int (nI p), .int (nI n), .int (nI c)] [] mem Q := by
    intro f
    induction f with
    | zero =>
      intro i mem hi hm hF h13 h14
      have hm : i = rmd lw c p 200 0 := hm
      rw [← hm] at k
      refine bk_X5_payOn_21 ⟨fun _ => k mem hF h13 h14, fun q => ?_⟩
      rw [h13, show (200 : Int32) = nI 200 from rfl, nI_leI (by decide) (by omega)] at q
      omega
    | succ f ih =>
      intro i mem hi hm hF h13 h14
      have hri := rs_lt hO (c := c) hp i
      rw [rmd_s lw c p f i] at hm
      refine bk_X5_payOn_21 ⟨fun q => ?_, fun _ => ?_⟩
      · rw [h13, show (200 : Int32) = nI 200 from rfl, nI_leI (by decide) (by omega)] at q
        omega
      rw [h13, nI_clamp (by omega), h14 i (Nat.le_refl _)]
      refine ⟨nI_inb (by omega) (by decide), fun q => ?_, fun q => ⟨nI_inb (by omega) (by decide), ?_⟩⟩
      · rw [nI_ltI (by omega) (by omega)] at q
        rw [if_pos q] at hm
        rw [← hm] at k
        exact k mem hF h13 h14
      · rw [nI_ltI (by omega) (by omega)] at q
        rw [if_neg q] at hm
        rw [pk_sub (by omega), nI_1]
        refine pdC hO (hL.fr (hF 2 (by decide))) (by omega) ?_
        refine bk_X5_payOn_72 ⟨nI_inb (by omega) (by decide), ?_⟩
        rw [nI_clamp (by omega), h13, nI_1]
        refine ih (i + 1) _ (by omega) hm ((hF.up (by decide) _ _).up (by decide) _ _) (up_tk _ _ _ _) (fun j hj => ?_)
        rw [up_n (by decide), up_t]
        simp only [upd]
        split
        · next e => rw [e]; rfl
        · exact h14 j (by omega)
  refine key 200 0 _ (by decide) rfl (((Fr.rf _ _).up (by decide) _ _).up (by decide) _ _) (up_tk _ _ _ _) (fun j hj => ?_)
  have : j = 0 := by omega
  subst this
  rw [up_n (by decide), up_tk]; rfl
theorem c_firstReturn {g : Nat → Nat} {M : Nat} (hM : M ≤ 200) (hg : ∀ i, g i < 2 ^ 31) {mem : pm_M} (h13 : mem 13 2 = nI M) (h14 : ∀ j, j ≤ M → mem 14 j = nI (g j)) (k : Q (some (.int (cmI (cm g M)))) mem) : pm_Ex ro m_X5_firstReturn 0 [.ref 13, .null, .null] [] mem Q := by
  refine bk_X5_firstReturn_0 ?_
  have key : ∀ (d r : Nat), r + d = M → cm g r = 0 → ∀ {d2 : Value}, pm_Ex ro m_X5_firstReturn 2 [.ref 13, .int (nI (r + 1)), d2] [] mem Q := by
    intro d
    induction d with
    | zero =>
      intro r hr h0 d2
      have : r = M := by omega
      subst this
      refine bk_X5_firstReturn_2 ⟨fun _ => ?_, fun q => ?_⟩
      · rw [h0] at k; exact k
      · rw [h13, nI_ltI (by omega) (by omega)] at q; omega
    | succ d ih =>
      intro r hr h0 d2
      refine bk_X5_firstReturn_2 ⟨fun q => ?_, fun _ => ?_⟩
      · rw [h13, nI_ltI (by omega) (by omega)] at q; omega
      have inner : ∀ (e j : Nat), j + e = r + 1 → hasK g j (g (r + 1)) = false → pm_Ex ro m_X5_firstReturn 12 [.ref 13, .int (nI (r + 1)), .int (nI j)] [] mem Q := by
        intro e
        induction e with
        | zero =>
          intro j hj hk
          have : j = r + 1 := by omega
          subst this
          refine bk_X5_firstReturn_12 ⟨fun _ => ?_, fun q => absurd (nI_le (Nat.le_refl _) (by omega)) q⟩
          rw [nI_1]
          refine ih (r + 1) (by omega) ?_
          simp only [cm]
          rw [if_pos h0, hk]; rfl
        | succ e ihe =>
          intro j hj hk
          refine bk_X5_firstReturn_12 ⟨fun q => ?_, fun _ => ⟨nI_inb (by omega) (by decide), nI_inb (by omega) (by decide), ?_⟩⟩
          · rw [nI_leI (by omega) (by omega)] at q; omega
          rw [nI_clamp (by omega), nI_clamp (by omega), h14 j (by omega), h14 (r + 1) (by omega), nI_eq (hg _) (hg _), nI_1]
          refine ⟨fun q => ihe (j + 1) (by omega) ?_, fun q => ?_⟩
          · simp only [hasK, hk, Bool.false_or]; exact decide_eq_false q
          · have q := Decidable.of_not_not q
            have hK : ∀ n, j < n → hasK g n (g (r + 1)) = true := by
              intro n
              induction n with
              | zero => intro h; omega
              | succ n ihn =>
                intro h
                simp only [hasK]
                rcases Nat.lt_or_ge j n with z | z
                · rw [ihn z]; rfl
                · have : n = j := by omega
                  rw [this, decide_eq_true q, Bool.or_true]
            have hcm : cm g (r + 1) = r + 1 := by
              simp only [cm]
              rw [if_pos h0, hK (r + 1) (by omega)]; rfl
            have := cm_stay (g := g) (i := r + 1) (by rw [hcm]; omega) d
            rw [show r + 1 + d = M by omega, hcm] at this
            rw [this] at k
            exact k
      exact inner (r + 1) 0 (Nat.zero_add _) rfl
  exact key M 0 (Nat.zero_add _) rfl
/-- what is told of the ROUNDS -/
def rndS (lw : Nat → Nat) (p n what : Nat) : Int32 := if what = 0 then nI (rmd lw (PD lw n) p 200 0) else if what = 1 then nI (rs lw (PD lw n) p (rmd lw (PD lw n) p 200 0)) else cmI (cm (rs lw (PD lw n) p) (rmd lw (PD lw n) p 200 0))
theorem r_roundsOf (hO : OKL lw) {p n what : Nat} (hp : p ≤ 9999) (hn : n ≤ 9999) (hw : what ≤ 2) {m0 : pm_M} (hL : LR m0 lw) (k : ∀ mem' : pm_M, Fr [45] m0 mem' → Q (some (.int (rndS lw p n what))) mem') : pm_Ex ro m_X10_roundsOf 0 [.ref 33, .int (nI p), .int (nI n), .int (nI what), .null, .null, .null, .null, .null] [] m0 Q := by
  refine bk_X10_roundsOf_0 ?_
  refine pdR hO hL (by omega) ?_
  refine bk_X10_roundsOf_5 ?_
  have hc := PD_9999 hO hn
  unfold rndS at k
  generalize PD lw n = c at k hc ⊢
  generalize hg : rs lw c p = g at k
  have hgl : ∀ i, g i < 360000 := fun i => by rw [← hg]; exact rs_lt hO hp i
  have key : ∀ (f i : Nat) (mem : pm_M), i + f = 200 → rmd lw c p f i = rmd lw c p 200 0 → Fr [45] m0 mem → (∀ j, j ≤ i → mem 45 j = nI (g j)) → ∀ {d7 d8 : Value}, pm_Ex ro m_X10_roundsOf 20 [.ref 33, .int (nI p), .int (nI n), .int (nI what), .int (nI c), .int (nI i), .int (cmI (cm g i)), d7, d8] [] mem Q := by
    intro f
    have fin : ∀ (i : Nat) (mem : pm_M), i ≤ 200 → i = rmd lw c p 200 0 → Fr [45] m0 mem → (∀ j, j ≤ i → mem 45 j = nI (g j)) → (¬ nI what = 0 → (¬ nI what = 1 → Q (some (.int (cmI (cm g i)))) mem) ∧ (¬ (¬ nI what = 1) → (pm_inb (nI i) 201 = true) ∧ (Q (some (.int (mem 45 (nI i).toNatClampNeg))) mem))) ∧ (¬ (¬ nI what = 0) → Q (some (.int (nI i))) mem) := by
      intro i mem hi hm hF h45
      have kk := k mem hF
      rw [← hm] at kk
      refine ⟨fun q0 => ⟨fun q1 => ?_, fun q1 => ⟨nI_inb (by omega) (by decide), ?_⟩⟩, fun q0 => ?_⟩
      · rw [nI_eq0 (by omega)] at q0
        rw [nI_eq1 (by omega)] at q1
        rw [if_neg q0, if_neg q1] at kk
        exact kk
      · rw [nI_eq0 (by omega)] at q0
        have q1 := Decidable.of_not_not q1
        rw [nI_eq1 (by omega)] at q1
        rw [if_neg q0, if_pos q1] at kk
        rw [nI_clamp (by omega), h45 i (Nat.le_refl _)]
        exact kk
      · have q0 := Decidable.of_not_not q0
        rw [nI_eq0 (by omega)] at q0
        rw [if_pos q0] at kk
        exact kk
    induction f with
    | zero =>
      intro i mem hi hm hF h45 d7 d8
      refine bk_X10_roundsOf_20 ⟨fun _ => fin i mem (by omega) hm hF h45, fun q => ?_⟩
      rw [show (200 : Int32) = nI 200 from rfl, nI_leI (by decide) (by omega)] at q
      omega
    | succ f ih =>
      intro i mem hi hm hF h45 d7 d8
      have hri := hgl i
      have egi : rs lw c p i = g i := by rw [hg]
      have egs : g (i + 1) = PD lw (g i - c) := by rw [← hg]; rfl
      rw [rmd_s lw c p f i, egi] at hm
      refine bk_X10_roundsOf_20 ⟨fun q => ?_, fun _ => ⟨nI_inb (by omega) (by decide), ?_⟩⟩
      · rw [show (200 : Int32) = nI 200 from rfl, nI_leI (by decide) (by omega)] at q
        omega
      have hcl : (nI i).toNatClampNeg = i := nI_clamp (by omega)
      rw [hcl, h45 i (Nat.le_refl _)]
      refine ⟨fun q => ?_, fun q => ⟨nI_inb (by omega) (by decide), ?_⟩⟩
      · rw [nI_ltI (by omega) (by omega)] at q
        rw [if_pos q] at hm
        have := fin i mem (by omega) hm hF h45
        rw [hcl, h45 i (Nat.le_refl _)] at this
        exact this
      · rw [nI_ltI (by omega) (by omega)] at q
        rw [if_neg q] at hm
        rw [pk_sub (by omega)]
        refine pdR hO (hL.fr (hF 41 (by decide))) (by omega) ?_
        rw [← egs]
        refine bk_X10_roundsOf_54 ?_
        -- behind the inner loop
        have K : ∀ (j : Nat), j ≤ i + 1 → (pm_inb (nI i + 1) 201 = true) ∧ (pm_Ex ro m_X10_roundsOf 20 [.ref 33, .int (nI p), .int (nI n), .int (nI what), .int (nI c), .int (nI i + 1), .int (cmI (cm g (i + 1))), .int (nI (g (i + 1))), .int (nI j)] [] (pm_up mem 45 ((nI i + 1).toNatClampNeg) (nI (g (i + 1)))) Q) := by
          intro j hj
          rw [nI_1, nI_clamp (by omega)]
          refine ⟨nI_inb (by omega) (by decide), ih (i + 1) _ (by omega) hm (hF.up (by decide) _ _) (fun q hq => ?_)⟩
          rw [up_t]
          simp only [upd]
          split
          · next e => rw [e]
          · exact h45 q (by omega)
        have cmne : ∀ m, ¬ m = 0 → m ≤ 201 → ¬ cmI m = -1 := by
          intro m h0 h1
          unfold cmI
          rw [if_neg h0]
          exact fI_ne (by omega)
        have cm_le : ∀ m, cm g m ≤ m := by
          intro m
          induction m with
          | zero => exact Nat.le_refl _
          | succ m ihm =>
            simp only [cm]
            split
            · cases hasK g (m + 1) (g (m + 1)) <;> simp
            · omega
        by_cases h0 : cm g i = 0
        · have inner : ∀ (e j : Nat), j + e = i + 1 → hasK g j (g (i + 1)) = false → pm_Ex ro m_X10_roundsOf 59 [.ref 33, .int (nI p), .int (nI n), .int (nI what), .int (nI c), .int (nI i), .int (-1), .int (nI (g (i + 1))), .int (nI j)] [] mem Q := by
            intro e
            induction e with
            | zero =>
              intro j hj hk
              have : j = i + 1 := by omega
              subst this
              refine bk_X10_roundsOf_59 ⟨fun _ => ?_, fun z => absurd (nI_lt (by omega) (by omega)) z⟩
              have e0 : cm g (i + 1) = 0 := by simp only [cm]; rw [if_pos h0, hk]; rfl
              have := K (i + 1) (Nat.le_refl _)
              rw [e0] at this
              exact this
            | succ e ihe =>
              intro j hj hk
              refine bk_X10_roundsOf_59 ⟨fun z => ?_, fun _ => ⟨fun z => absurd rfl z, fun _ => ⟨nI_inb (by omega) (by decide), ?_⟩⟩⟩
              · rw [nI_ltI (by omega) (by omega)] at z; omega
              rw [nI_clamp (by omega), h45 j (by omega), nI_1 i, nI_1 j]
              by_cases hj' : g j = g (i + 1)
              · rw [hj', if_neg (not_not_intro rfl)]
                have hK : ∀ n, j < n → hasK g n (g (i + 1)) = true := by
                  intro n
                  induction n with
                  | zero => intro h; omega
                  | succ n ihn =>
                    intro h
                    simp only [hasK]
                    rcases Nat.lt_or_ge j n with z | z
                    · rw [ihn z]; rfl
                    · have : n = j := by omega
                      rw [this, decide_eq_true hj', Bool.or_true]
                have e1 : cm g (i + 1) = i + 1 := by simp only [cm]; rw [if_pos h0, hK (i + 1) (by omega)]; rfl
                have e2 : nI (i + 1) = cmI (cm g (i + 1)) := by rw [e1]; unfold cmI; rw [if_neg (by omega)]
                have hKj := K (j + 1) (by omega)
                rw [e2]
                refine bk_X10_roundsOf_59 ⟨fun _ => hKj, fun _ => ⟨fun _ => hKj, fun z => ?_⟩⟩
                exact absurd (cmne _ (by rw [e1]; omega) (by rw [e1]; omega)) z
              · rw [if_pos (fun z => hj' ((nI_eq (by have := hgl j; omega) (by have := hgl (i + 1); omega)).mp z))]
                refine ihe (j + 1) (by omega) ?_
                simp only [hasK, hk, Bool.false_or]
                exact decide_eq_false hj'
          have e0 : cmI (cm g i) = -1 := by rw [h0]; rfl
          rw [e0]
          exact inner (i + 1) 0 (Nat.zero_add _) rfl
        · have e1 : cm g (i + 1) = cm g i := by simp only [cm]; rw [if_neg h0]
          have := K 0 (Nat.zero_le _)
          rw [e1] at this
          refine bk_X10_roundsOf_59 ⟨fun _ => this, fun _ => ⟨fun _ => this, fun z => ?_⟩⟩
          exact absurd (cmne _ h0 (by have := cm_le i; omega)) z
  refine key 200 0 _ (by decide) rfl ((Fr.rf _ _).up (by decide) _ _) (fun j hj => ?_)
  have : j = 0 := by omega
  subst this
  rw [up_tk, ← hg]; rfl
end RND
section RNDA
variable {ro : pm_RO} {tx : Nat → Nat} {u : Nat} {lw ow : Nat → Nat} {sf : Nat → Int32} {sl : Nat → Nat} {si : Nat → Nat → Int32} {lt : Int32}
def rndA (lw : Nat → Nat) (a b c : Int32) : Int32 := if (0 ≤ a ∧ a ≤ 9999) ∧ (0 ≤ b ∧ b ≤ 9999) ∧ 0 ≤ c ∧ c ≤ 2 then rndS lw a.toNatClampNeg b.toNatClampNeg c.toNatClampNeg else -2
theorem c_rounds (hO : OKL lw) {mem : pm_M} {Q : Option Value → pm_M → Prop} (hI : IC mem tx u lw ow sf sl si lt) {a b c : Int32} (k : ∀ mem' : pm_M, Fr CT mem mem' → IC mem' tx u lw ow sf sl si lt → Q (some (.int (rndA lw a b c))) mem') : pm_Ex ro m_X9_rounds 0 [.ref 0, .int a, .int b, .int c] [] mem Q := by
  unfold rndA at k
  refine bk_X9_rounds_0 ⟨fun h1 => ⟨fun h2 => ⟨fun h3 => ?_, fun h3 => ?_⟩, fun h2 => ?_⟩, fun h1 => ?_⟩
  · have g1 := rng_iff.mp h1
    have g2 := rng_iff.mp h2
    have g3 := rng_iff.mp h3
    rw [if_pos ⟨g1, g2, g3⟩] at k
    obtain ⟨p, hp, rfl⟩ := rng' (n := 9999) (by decide) g1
    obtain ⟨n, hn, rfl⟩ := rng' (n := 9999) (by decide) g2
    obtain ⟨w, hw, rfl⟩ := rng' (n := 2) (by decide) g3
    rw [nI_clamp (by omega), nI_clamp (by omega), nI_clamp (by omega)] at k
    refine c_payOn hO hp hn hI.2.2.1 (fun mem' f1 f2 f3 => ?_)
    have kk := k mem' (f1.CT (by decide)) (hI.scr f1 (by decide))
    have hM := (rmd_le lw (PD lw n) p 200 0).2
    refine bk_X9_rounds_35 ?_
    unfold rndS at kk
    rcases (show w = 0 ∨ w = 1 ∨ w = 2 by omega) with rfl | rfl | rfl
    · refine bk_X9_rounds_36_c0 ?_
      rw [f2]; exact kk
    · refine bk_X9_rounds_36_c1 ?_
      rw [f2, nI_clamp (by omega), f3 _ (Nat.le_refl _)]
      exact ⟨nI_inb (by omega) (by decide), kk⟩
    · refine bk_X9_rounds_36_d (by decide) (by decide) ?_
      refine c_firstReturn (g := rs lw (PD lw n) p) (by omega) (fun i => by have := rs_lt hO (c := PD lw n) hp i; omega) f2 f3 (bk_X9_rounds_87 ?_)
      exact kk
  · rw [if_neg (fun q => h3 (rng_iff.mpr q.2.2))] at k; exact k mem (Fr.rf _ _) hI
  · rw [if_neg (fun q => h2 (rng_iff.mpr q.2.1))] at k; exact k mem (Fr.rf _ _) hI
  · rw [if_neg (fun q => h1 (rng_iff.mpr q.1))] at k; exact k mem (Fr.rf _ _) hI
theorem ag_rounds (hO : OK lw ow sf sl) (a b c : Int32) : AGi ro m_X9_rounds [.ref 0, .int a, .int b, .int c] m_X10_rounds [.ref 33, .int a, .int b, .int c] (tx, u, lw, ow, sf, sl, si, lt) := by
  refine ⟨rndA lw a b c, (tx, u, lw, ow, sf, sl, si, lt), hO, fun m Q hI k => c_rounds hO.1 hI k, fun m Q hI k => ?_⟩
  have hI : IR m tx u lw ow sf sl si lt := hI
  unfold rndA at k
  refine bk_X10_rounds_0 ⟨fun g1 => ⟨fun g2 => ⟨fun g3 => ?_, fun h3 => ?_⟩, fun h2 => ?_⟩, fun h1 => ?_⟩
  · rw [if_pos ⟨g1, g2, g3⟩] at k
    obtain ⟨p, hp, rfl⟩ := rng' (n := 9999) (by decide) g1
    obtain ⟨n, hn, rfl⟩ := rng' (n := 9999) (by decide) g2
    obtain ⟨w, hw, rfl⟩ := rng' (n := 2) (by decide) g3
    rw [nI_clamp (by omega), nI_clamp (by omega), nI_clamp (by omega)] at k
    refine r_roundsOf hO.1 hp hn hw hI.2.1 (fun mem' f1 => bk_X10_rounds_33 ?_)
    exact k mem' (f1.RT (by decide)) (hI.scr f1 (by decide))
  · rw [if_neg (fun q => h3 q.2.2)] at k; exact k m (Fr.rf _ _) hI
  · rw [if_neg (fun q => h2 q.2.1)] at k; exact k m (Fr.rf _ _) hI
  · rw [if_neg (fun q => h1 q.1)] at k; exact k m (Fr.rf _ _) hI
end RNDA
