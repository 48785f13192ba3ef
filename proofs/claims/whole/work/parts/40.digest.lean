/-! digest -/
def fo (f : Nat → Int64) : Nat → Nat → Int64 → Int64
  | 0, _, h => h
  | c + 1, i, h => fo f c (i + 1) (31 * h + f i)
noncomputable def gdS (tx : Nat → Nat) (u : Nat) (lw ow : Nat → Nat) (g : Nat) (h : Int64) : Int64 := 31 * (31 * fo (fun k => (gdA tx u ow g k).toInt64) 3 0 h + (nI (PD lw (pzP tx u g))).toInt64) + (raisS tx u lw g 20).toInt64
noncomputable def goS (tx : Nat → Nat) (u : Nat) (lw ow : Nat → Nat) : Nat → Nat → Int64 → Int64
  | 0, _, h => h
  | c + 1, g, h => goS tx u lw ow c (g + 1) (gdS tx u lw ow g h)
noncomputable def fiS (lw : Nat → Nat) : Nat → Nat → Int64 → Int64
  | 0, _, h => h
  | c + 1, y, h => fiS lw c (y + 1) (fo (fun k => (nI (fgs lw y k)).toInt64) 4 0 h)
noncomputable def shR (tx : Nat → Nat) (u : Nat) (lw ow : Nat → Nat) : Nat → Nat → Int64 → Int64
  | 0, _, h => h
  | c + 1, p, h => shR tx u lw ow c (p + 1) (fo (fun k => shaS (brS (wN tx u lw ow) p 16) k) 2 0 h)
noncomputable def fC (tx : Nat → Nat) (u : Nat) (lw : Nat → Nat) (lt : Int32) (k : Nat) : Int64 := (cntA tx u lw lt (nI k)).toInt64
noncomputable def fB (tx : Nat → Nat) (u : Nat) (lw : Nat → Nat) (k : Nat) : Int64 := (nI (bt4 (btA tx u lw) k)).toInt64
noncomputable def fR (lw : Nat → Nat) (k : Nat) : Int64 := (rndS lw 500 21 k).toInt64
noncomputable def sA (tx : Nat → Nat) (u : Nat) (lw ow : Nat → Nat) (h : Int64) : Int64 := goS tx u lw ow (pzG tx u) 0 (31 * h + (pzF tx u).toInt64)
noncomputable def sB (tx : Nat → Nat) (u : Nat) (lw : Nat → Nat) (h : Int64) : Int64 := 31 * (31 * (31 * h + (nI (adN lw 120 99)).toInt64) + (prfS tx u lw 8 0).toInt64) + (prfS tx u lw 8 1).toInt64
noncomputable def sD (lw : Nat → Nat) (h : Int64) : Int64 := 31 * (31 * h + (rlev false (pdI lw) 2 60).toInt64) + (rlev true (pdI lw) 2 60).toInt64
noncomputable def sE (lw : Nat → Nat) (h : Int64) : Int64 := 31 * (31 * h + (gamS lw 5 14 31 0).toInt64) + (gamS lw 5 14 31 1).toInt64
noncomputable def dgV (tx : Nat → Nat) (u : Nat) (lw ow : Nat → Nat) (lt : Int32) : Int64 := sE lw (shR tx u lw ow 4 0 (sD lw (fiS lw 3 1 (fo (fR lw) 3 0 (sB tx u lw (fo (fB tx u lw) 4 0 (sA tx u lw ow (fo (fC tx u lw lt) 8 0 17))))))))
section DGE
variable {tx : Nat → Nat} {u : Nat} {lw ow : Nat → Nat}
theorem goodA_n {g k : Nat} (hg : g < pzG tx u) (hk : k ≤ 2) : goodA tx u ow (nI g) (nI k) = gdA tx u ow g k := by
  have hG := pzG_le tx u
  have e : nI (pzG tx u) - 1 = nI (pzG tx u - 1) := pk_sub (b := 1) (by omega)
  unfold goodA
  rw [e, if_pos ⟨nI_rng (by omega) (by omega), nI_rng (n := 2) (by decide) hk⟩, nI_clamp (by omega), nI_clamp (by omega)]
theorem raiA_n {g : Nat} (hg : g < pzG tx u) : raiA tx u lw (nI g) 20 = raisS tx u lw g 20 := by
  have hG := pzG_le tx u
  have e : nI (pzG tx u) - 1 = nI (pzG tx u - 1) := pk_sub (b := 1) (by omega)
  unfold raiA
  rw [e, if_pos ⟨nI_rng (by omega) (by omega), by decide⟩, nI_clamp (by omega)]
theorem paidA_n {n : Nat} (hn : n ≤ 9999) : paidA lw (nI n) = nI (PD lw n) := by
  unfold paidA
  rw [if_pos (show 0 ≤ nI n ∧ nI n ≤ 9999 from nI_rng (n := 9999) (by decide) hn), nI_clamp (by omega)]
theorem addA_n : addA lw 120 = nI (adN lw 120 99) := by
  unfold addA
  rw [if_pos (by decide)]
  rfl
theorem prfA_0 : prfA tx u lw 8 0 = prfS tx u lw 8 0 := by
  unfold prfA
  rw [if_pos (by decide)]
  rfl
theorem prfA_1 : prfA tx u lw 8 1 = prfS tx u lw 8 1 := by
  unfold prfA
  rw [if_pos (by decide)]
  rfl
theorem bouA_n {k : Nat} (hk : k ≤ 3) : bouA tx u lw (nI k) = nI (bt4 (btA tx u lw) k) := by
  unfold bouA
  rw [if_pos (show 0 ≤ nI k ∧ nI k ≤ 3 from nI_rng (n := 3) (by decide) hk), nI_clamp (by omega)]
theorem rndA_n {k : Nat} (hk : k ≤ 2) : rndA lw 500 21 (nI k) = rndS lw 500 21 k := by
  unfold rndA
  rw [if_pos ⟨by decide, by decide, nI_rng (n := 2) (by decide) hk⟩, nI_clamp (show k < 2 ^ 31 by omega)]
  rfl
theorem figA_n {y k : Nat} (hy1 : 1 ≤ y) (hy : y ≤ 3) (hk : k ≤ 3) : figA lw (nI y) (nI k) = nI (fgs lw y k) := by
  unfold figA
  rw [if_pos ⟨⟨nI_le (a := 1) hy1 (by omega), nI_le (b := 3) hy (by decide)⟩, nI_rng (n := 3) (by decide) hk⟩, nI_clamp (by omega), nI_clamp (by omega)]
theorem rntA_0 : rntA lw 60 3 0 = rlev false (pdI lw) 2 60 := by
  unfold rntA
  rw [if_pos (by decide)]
  rfl
theorem rntA_1 : rntA lw 60 3 1 = rlev true (pdI lw) 2 60 := by
  unfold rntA
  rw [if_pos (by decide)]
  rfl
theorem shaA_n {p k : Nat} (hp : p ≤ 3) (hk : k ≤ 1) : shaA tx u lw ow (nI p) (nI k) = shaS (brS (wN tx u lw ow) p 16) k := by
  unfold shaA
  rw [if_pos ⟨nI_rng (n := 3) (by decide) hp, nI_rng (n := 1) (by decide) hk⟩, nI_clamp (by omega), nI_clamp (by omega)]
theorem gamA_0 : gamA lw 5 14 31 0 = gamS lw 5 14 31 0 := by
  unfold gamA
  rw [if_pos (by decide)]
  rfl
theorem gamA_1 : gamA lw 5 14 31 1 = gamS lw 5 14 31 1 := by
  unfold gamA
  rw [if_pos (by decide)]
  rfl
end DGE
section DGC
variable {ro : pm_RO} {Q : Option Value → pm_M → Prop} {tx : Nat → Nat} {u : Nat} {lw ow : Nat → Nat} {sf : Nat → Int32} {sl : Nat → Nat} {si : Nat → Nat → Int32} {lt : Int32}
theorem c_gi20 (hO : OKL lw) {g : Nat} (hg : g < pzG tx u) {m0 : pm_M} {x1 : Int64} : ∀ (c i : Nat) (h : Int64) (m : pm_M), i + c = 3 → Fr CT m0 m → IC m tx u lw ow sf sl si lt → (∀ m' : pm_M, Fr CT m0 m' → IC m' tx u lw ow sf sl si lt → pm_Ex ro m_X9_goodsInto 5 [.ref 0, .long x1, .null, .long (31 * (31 * fo (fun k => (gdA tx u ow g k).toInt64) c i h + (nI (PD lw (pzP tx u g))).toInt64) + (raisS tx u lw g 20).toInt64), .null, .int (nI (g + 1)), .int (nI 3)] [] m' Q) → pm_Ex ro m_X9_goodsInto 20 [.ref 0, .long x1, .null, .long h, .null, .int (nI g), .int (nI i)] [] m Q := by
  intro c
  induction c with
  | zero =>
    intro i h m hi hF hI k
    have e : i = 3 := by omega
    subst e
    refine bk_X9_goodsInto_20 ⟨fun _ => ?_, fun q => absurd (by decide) q⟩
    refine c_good hI ?_
    rw [show goodA tx u ow (nI g) 0 = nI (pzP tx u g) from goodA_n (k := 0) hg (by decide)]
    refine bk_X9_goodsInto_61 ?_
    refine c_paid hO hI.2.2.1 ?_
    rw [paidA_n (by have := pzP_ok tx u g hg; omega)]
    refine bk_X9_goodsInto_64 ?_
    refine c_raised hO hI (fun m' f1 f2 => ?_)
    rw [raiA_n hg]
    refine bk_X9_goodsInto_80 ?_
    rw [nI_1]
    exact k m' (hF.tr f1) f2
  | succ c ih =>
    intro i h m hi hF hI k
    refine bk_X9_goodsInto_20 ⟨fun q => ?_, fun _ => ?_⟩
    · have q : nI 2 < nI i := q
      rw [nI_ltI (by decide) (by omega)] at q
      omega
    refine c_good hI ?_
    rw [goodA_n hg (by omega)]
    refine bk_X9_goodsInto_39 ?_
    rw [nI_1]
    exact ih (i + 1) _ m (by omega) hF hI k
theorem c_gi5 (hO : OKL lw) {m0 : pm_M} {x1 : Int64} : ∀ (c g : Nat) (h : Int64) (m : pm_M) (d : Value), g + c = pzG tx u → Fr CT m0 m → IC m tx u lw ow sf sl si lt → (∀ m' : pm_M, Fr CT m0 m' → IC m' tx u lw ow sf sl si lt → Q (some (.long (goS tx u lw ow c g h))) m') → pm_Ex ro m_X9_goodsInto 5 [.ref 0, .long x1, .null, .long h, .null, .int (nI g), d] [] m Q := by
  have hG := pzG_le tx u
  intro c
  induction c with
  | zero =>
    intro g h m d hg hF hI k
    refine bk_X9_goodsInto_5 ?_
    rw [hI.2.1.1]
    exact ⟨fun _ => k m hF hI, fun q => absurd (nI_le (by omega) (by omega)) q⟩
  | succ c ih =>
    intro g h m d hg hF hI k
    refine bk_X9_goodsInto_5 ?_
    rw [hI.2.1.1]
    refine ⟨fun q => ?_, fun _ => ?_⟩
    · rw [nI_leI (by omega) (by omega)] at q; omega
    exact c_gi20 hO (by omega) 3 0 h m rfl hF hI (fun m' f1 f2 => ih (g + 1) _ m' _ (by omega) f1 f2 k)
theorem c_fi14 (hO : OKL lw) {y : Nat} (hy1 : 1 ≤ y) (hy : y ≤ 3) {m0 : pm_M} {x1 : Int64} : ∀ (c i : Nat) (h : Int64) (m : pm_M), i + c = 4 → Fr CT m0 m → IC m tx u lw ow sf sl si lt → (∀ m' : pm_M, Fr CT m0 m' → IC m' tx u lw ow sf sl si lt → pm_Ex ro m_X9_figuresInto 5 [.ref 0, .long x1, .null, .long (fo (fun k => (nI (fgs lw y k)).toInt64) c i h), .null, .int (nI (y + 1)), .int (nI 4)] [] m' Q) → pm_Ex ro m_X9_figuresInto 14 [.ref 0, .long x1, .null, .long h, .null, .int (nI y), .int (nI i)] [] m Q := by
  intro c
  induction c with
  | zero =>
    intro i h m hi hF hI k
    have e : i = 4 := by omega
    subst e
    refine bk_X9_figuresInto_14 ⟨fun _ => ?_, fun q => absurd (by decide) q⟩
    rw [nI_1]
    exact k m hF hI
  | succ c ih =>
    intro i h m hi hF hI k
    refine bk_X9_figuresInto_14 ⟨fun q => ?_, fun _ => ?_⟩
    · have q : nI 3 < nI i := q
      rw [nI_ltI (by decide) (by omega)] at q
      omega
    refine c_figures hO hI (fun m' f1 f2 => ?_)
    rw [figA_n hy1 hy (by omega)]
    refine bk_X9_figuresInto_33 ?_
    rw [nI_1]
    exact ih (i + 1) _ m' (by omega) (hF.tr f1) f2 k
theorem c_fi5 (hO : OKL lw) {m0 : pm_M} {x1 : Int64} : ∀ (c y : Nat) (h : Int64) (m : pm_M) (d : Value), y + c = 4 → 1 ≤ y → Fr CT m0 m → IC m tx u lw ow sf sl si lt → (∀ m' : pm_M, Fr CT m0 m' → IC m' tx u lw ow sf sl si lt → Q (some (.long (fiS lw c y h))) m') → pm_Ex ro m_X9_figuresInto 5 [.ref 0, .long x1, .null, .long h, .null, .int (nI y), d] [] m Q := by
  intro c
  induction c with
  | zero =>
    intro y h m d hy hy1 hF hI k
    have e : y = 4 := by omega
    subst e
    exact bk_X9_figuresInto_5 ⟨fun _ => k m hF hI, fun q => absurd (by decide) q⟩
  | succ c ih =>
    intro y h m d hy hy1 hF hI k
    refine bk_X9_figuresInto_5 ⟨fun q => ?_, fun _ => ?_⟩
    · have q : nI 3 < nI y := q
      rw [nI_ltI (by decide) (by omega)] at q
      omega
    exact c_fi14 hO hy1 (by omega) 4 0 h m rfl hF hI (fun m' f1 f2 => ih (y + 1) _ m' _ (by omega) (by omega) f1 f2 k)
theorem c_d6 (hO : OKL lw) {m0 : pm_M} : ∀ (c i : Nat) (h : Int64) (m : pm_M), i + c = 8 → Fr CT m0 m → IC m tx u lw ow sf sl si lt → (∀ m' : pm_M, Fr CT m0 m' → IC m' tx u lw ow sf sl si lt → pm_Ex ro m_X9_digest 51 [.ref 0, .long (sA tx u lw ow (fo (fC tx u lw lt) c i h)), .null, .int (nI 0)] [] m' Q) → pm_Ex ro m_X9_digest 6 [.ref 0, .long h, .null, .int (nI i)] [] m Q := by
  intro c
  induction c with
  | zero =>
    intro i h m hi hF hI k
    have e : i = 8 := by omega
    subst e
    refine bk_X9_digest_6 ⟨fun _ => ?_, fun q => absurd (by decide) q⟩
    rw [hI.2.1.2.2.1]
    exact bk_X9_goodsInto_0 (c_gi5 hO (pzG tx u) 0 _ m _ (Nat.zero_add _) hF hI (fun m' f1 f2 => bk_X9_digest_48 (k m' f1 f2)))
  | succ c ih =>
    intro i h m hi hF hI k
    refine bk_X9_digest_6 ⟨fun q => ?_, fun _ => ?_⟩
    · have q : nI 7 < nI i := q
      rw [nI_ltI (by decide) (by omega)] at q
      omega
    refine c_count hO hI (fun m' f1 f2 => bk_X9_digest_22 ?_)
    rw [nI_1]
    exact ih (i + 1) _ m' (by omega) (hF.tr f1) f2 k
theorem c_d51 (hO : OKL lw) {m0 : pm_M} : ∀ (c i : Nat) (h : Int64) (m : pm_M), i + c = 4 → Fr CT m0 m → IC m tx u lw ow sf sl si lt → (∀ m' : pm_M, Fr CT m0 m' → IC m' tx u lw ow sf sl si lt → pm_Ex ro m_X9_digest 121 [.ref 0, .long (sB tx u lw (fo (fB tx u lw) c i h)), .null, .int (nI 0)] [] m' Q) → pm_Ex ro m_X9_digest 51 [.ref 0, .long h, .null, .int (nI i)] [] m Q := by
  intro c
  induction c with
  | zero =>
    intro i h m hi hF hI k
    have e : i = 4 := by omega
    subst e
    refine bk_X9_digest_51 ⟨fun _ => ?_, fun q => absurd (by decide) q⟩
    refine c_added hO hI.2.2.1 ?_
    rw [addA_n]
    refine bk_X9_digest_86 (c_proof hO hI (fun m1 f1 g1 => ?_))
    rw [prfA_0]
    refine bk_X9_digest_101 (c_proof hO g1 (fun m2 f2 g2 => ?_))
    rw [prfA_1]
    exact bk_X9_digest_116 (k m2 ((hF.tr f1).tr f2) g2)
  | succ c ih =>
    intro i h m hi hF hI k
    refine bk_X9_digest_51 ⟨fun q => ?_, fun _ => ?_⟩
    · have q : nI 3 < nI i := q
      rw [nI_ltI (by decide) (by omega)] at q
      omega
    refine c_bought hO hI (fun m' f1 f2 => ?_)
    rw [bouA_n (by omega)]
    refine bk_X9_digest_66 ?_
    rw [nI_1]
    exact ih (i + 1) _ m' (by omega) (hF.tr f1) f2 k
theorem c_d121 (hO : OKL lw) {m0 : pm_M} : ∀ (c i : Nat) (h : Int64) (m : pm_M), i + c = 3 → Fr CT m0 m → IC m tx u lw ow sf sl si lt → (∀ m' : pm_M, Fr CT m0 m' → IC m' tx u lw ow sf sl si lt → pm_Ex ro m_X9_digest 190 [.ref 0, .long (sD lw (fiS lw 3 1 (fo (fR lw) c i h))), .null, .int (nI 0)] [] m' Q) → pm_Ex ro m_X9_digest 121 [.ref 0, .long h, .null, .int (nI i)] [] m Q := by
  intro c
  induction c with
  | zero =>
    intro i h m hi hF hI k
    have e : i = 3 := by omega
    subst e
    refine bk_X9_digest_121 ⟨fun _ => ?_, fun q => absurd (by decide) q⟩
    refine bk_X9_figuresInto_0 (c_fi5 hO 3 1 _ m _ rfl (by decide) hF hI (fun m1 f1 g1 => ?_))
    refine bk_X9_digest_155 (c_rent hO g1 (fun m2 f2 g2 => ?_))
    rw [rntA_0]
    refine bk_X9_digest_169 (c_rent hO g2 (fun m3 f3 g3 => ?_))
    rw [rntA_1]
    exact bk_X9_digest_185 (k m3 ((f1.tr f2).tr f3) g3)
  | succ c ih =>
    intro i h m hi hF hI k
    refine bk_X9_digest_121 ⟨fun q => ?_, fun _ => ?_⟩
    · have q : nI 2 < nI i := q
      rw [nI_ltI (by decide) (by omega)] at q
      omega
    refine c_rounds hO hI (fun m' f1 f2 => ?_)
    rw [rndA_n (by omega)]
    refine bk_X9_digest_141 ?_
    rw [nI_1]
    exact ih (i + 1) _ m' (by omega) (hF.tr f1) f2 k
theorem c_d190 (h51 : ro 51 = some (4, c51)) (hO : OK lw ow sf sl) {m0 : pm_M} : ∀ (c p : Nat) (h : Int64) (m : pm_M), p + c = 4 → Fr CT m0 m → IC m tx u lw ow sf sl si lt → (∀ m' : pm_M, Fr CT m0 m' → IC m' tx u lw ow sf sl si lt → Q (some (.long (sE lw (shR tx u lw ow c p h)))) m') → pm_Ex ro m_X9_digest 190 [.ref 0, .long h, .null, .int (nI p)] [] m Q := by
  intro c
  induction c with
  | zero =>
    intro p h m hp hF hI k
    have e : p = 4 := by omega
    subst e
    refine bk_X9_digest_190 ⟨fun _ => ?_, fun q => absurd (by decide) q⟩
    refine c_game hO.1 hI (fun m1 f1 g1 => ?_)
    rw [gamA_0]
    refine bk_X9_digest_242 (c_game hO.1 g1 (fun m2 f2 g2 => ?_))
    rw [gamA_1]
    exact bk_X9_digest_260 (k m2 ((hF.tr f1).tr f2) g2)
  | succ c ih =>
    intro p h m hp hF hI k
    refine bk_X9_digest_190 ⟨fun q => ?_, fun _ => ?_⟩
    · have q : nI 4 ≤ nI p := q
      rw [nI_leI (by decide) (by omega)] at q
      omega
    refine c_share h51 hO hI ?_
    rw [show shaA tx u lw ow (nI p) 0 = shaS (brS (wN tx u lw ow) p 16) 0 from shaA_n (k := 0) (by omega) (by decide)]
    refine bk_X9_digest_206 (c_share h51 hO hI ?_)
    rw [show shaA tx u lw ow (nI p) 1 = shaS (brS (wN tx u lw ow) p 16) 1 from shaA_n (k := 1) (by omega) (by decide)]
    refine bk_X9_digest_219 ?_
    rw [nI_1]
    exact ih (p + 1) _ m (by omega) hF hI k
theorem c_digest (h51 : ro 51 = some (4, c51)) (hO : OK lw ow sf sl) {m : pm_M} (hI : IC m tx u lw ow sf sl si lt) (k : ∀ m' : pm_M, Fr CT m m' → IC m' tx u lw ow sf sl si lt → Q (some (.long (dgV tx u lw ow lt))) m') : pm_Ex ro m_X9_digest 0 [.ref 0, .null, .null, .null] [] m Q :=
  bk_X9_digest_0 (c_d6 hO.1 8 0 17 m rfl (Fr.rf _ _) hI (fun _ f1 g1 => c_d51 hO.1 4 0 _ _ rfl f1 g1 (fun _ f2 g2 => c_d121 hO.1 3 0 _ _ rfl f2 g2 (fun _ f3 g3 => c_d190 h51 hO 4 0 _ _ rfl f3 g3 k))))
end DGC
section DGR
variable {ro : pm_RO} {Q : Option Value → pm_M → Prop} {tx : Nat → Nat} {u : Nat} {lw ow : Nat → Nat} {sf : Nat → Int32} {sl : Nat → Nat} {si : Nat → Nat → Int32} {lt : Int32}
theorem r_d6 {m0 : pm_M} : ∀ (c i : Nat) (h : Int64) (m : pm_M), i + c = 8 → Fr RT m0 m → IR m tx u lw ow sf sl si lt → (∀ m' : pm_M, Fr RT m0 m' → IR m' tx u lw ow sf sl si lt → GR m' tx u → pm_Ex ro m_X10_digest 45 [.ref 33, .long (31 * fo (fC tx u lw lt) c i h + (pzF tx u).toInt64), .null, .int (nI 0), .null] [] m' Q) → pm_Ex ro m_X10_digest 6 [.ref 33, .long h, .null, .int (nI i), .null] [] m Q := by
  intro c
  induction c with
  | zero =>
    intro i h m hi hF hI k
    have e : i = 8 := by omega
    subst e
    refine bk_X10_digest_6 ⟨fun _ => ?_, fun q => absurd (by decide) q⟩
    exact r_reads hI (fun m1 f1 f2 f3 => bk_X10_digest_40 (k m1 (hF.tr f1) f2 f3))
  | succ c ih =>
    intro i h m hi hF hI k
    refine bk_X10_digest_6 ⟨fun q => ?_, fun _ => ?_⟩
    · have q : nI 8 ≤ nI i := q
      rw [nI_leI (by decide) (by omega)] at q
      omega
    refine bk_X10_count_0 (r_reads hI (fun m1 f1 f2 f3 => bk_X10_count_4 (r_count6 f2 f3 (bk_X10_digest_22 ?_))))
    rw [nI_1]
    exact ih (i + 1) _ m1 (by omega) (hF.tr f1) f2 k
theorem r_d56 (hO : OKL lw) {m : pm_M} (hI : IR m tx u lw ow sf sl si lt) (hR : GR m tx u) {g : Nat} (hg : g < pzG tx u) : ∀ (c i : Nat) (h : Int64), i + c = 3 → pm_Ex ro m_X10_digest 45 [.ref 33, .long (31 * (31 * fo (fun k => (gdA tx u ow g k).toInt64) c i h + (nI (PD lw (pzP tx u g))).toInt64) + (raisS tx u lw g 20).toInt64), .null, .int (nI (g + 1)), .int (nI 3)] [] m Q → pm_Ex ro m_X10_digest 56 [.ref 33, .long h, .null, .int (nI g), .int (nI i)] [] m Q := by
  have hG := pzG_le tx u
  intro c
  induction c with
  | zero =>
    intro i h hi k
    have e : i = 3 := by omega
    subst e
    refine bk_X10_digest_56 ⟨fun _ => ⟨nI_inb (by omega) (by decide), ?_⟩, fun q => absurd (by decide) q⟩
    rw [nI_clamp (by omega), hR.2.2 g hg]
    refine pdR hO hI.2.1 (by have := pzP_ok tx u g hg; omega) (bk_X10_digest_98 (r_raisedOf hO hI.2.1 hR hg (bk_X10_digest_113 ?_)))
    rw [nI_1]
    exact k
  | succ c ih =>
    intro i h hi k
    refine bk_X10_digest_56 ⟨fun q => ?_, fun _ => ?_⟩
    · have q : nI 3 ≤ nI i := q
      rw [nI_leI (by decide) (by omega)] at q
      omega
    refine r_goodOf hI.2.2.1 hR hg (by omega) (bk_X10_digest_74 ?_)
    rw [nI_1]
    exact ih (i + 1) _ (by omega) k
theorem r_d45 (hO : OKL lw) {m : pm_M} (hI : IR m tx u lw ow sf sl si lt) (hR : GR m tx u) : ∀ (c g : Nat) (h : Int64) (d : Value), g + c = pzG tx u → (∀ d : Value, pm_Ex ro m_X10_digest 124 [.ref 33, .long (goS tx u lw ow c g h), .null, .int (nI 0), d] [] m Q) → pm_Ex ro m_X10_digest 45 [.ref 33, .long h, .null, .int (nI g), d] [] m Q := by
  have hG := pzG_le tx u
  intro c
  induction c with
  | zero =>
    intro g h d hg k
    refine bk_X10_digest_45 ?_
    rw [hR.1]
    exact ⟨fun _ => k d, fun q => absurd (nI_le (by omega) (by omega)) q⟩
  | succ c ih =>
    intro g h d hg k
    refine bk_X10_digest_45 ?_
    rw [hR.1]
    refine ⟨fun q => ?_, fun _ => ?_⟩
    · rw [nI_leI (by omega) (by omega)] at q; omega
    exact r_d56 hO hI hR (by omega) 3 0 h rfl (ih (g + 1) _ _ (by omega) k)
theorem r_d124 (hO : OKL lw) {m0 : pm_M} {d : Value} : ∀ (c i : Nat) (h : Int64) (m : pm_M), i + c = 4 → Fr RT m0 m → IR m tx u lw ow sf sl si lt → GR m tx u → (∀ m' : pm_M, Fr RT m0 m' → IR m' tx u lw ow sf sl si lt → GR m' tx u → pm_Ex ro m_X10_digest 194 [.ref 33, .long (sB tx u lw (fo (fB tx u lw) c i h)), .null, .int (nI 0), d] [] m' Q) → pm_Ex ro m_X10_digest 124 [.ref 33, .long h, .null, .int (nI i), d] [] m Q := by
  intro c
  induction c with
  | zero =>
    intro i h m hi hF hI hR k
    have e : i = 4 := by omega
    subst e
    refine bk_X10_digest_124 ⟨fun _ => ?_, fun q => absurd (by decide) q⟩
    refine r_addedTo (n := 120) hO hI.2.1 (by decide) (bk_X10_digest_159 ?_)
    refine r_proofOf (many := 8) (what := 0) hO hI.2.1 hR (by decide) (by decide) (by decide) (bk_X10_digest_174 ?_)
    refine r_proofOf (many := 8) (what := 1) hO hI.2.1 hR (by decide) (by decide) (by decide) (bk_X10_digest_189 ?_)
    exact k m hF hI hR
  | succ c ih =>
    intro i h m hi hF hI hR k
    refine bk_X10_digest_124 ⟨fun q => ?_, fun _ => ?_⟩
    · have q : nI 4 ≤ nI i := q
      rw [nI_leI (by decide) (by omega)] at q
      omega
    refine r_boughtOf hO hI.2.1 hR (by omega) (fun m' f1 => bk_X10_digest_139 ?_)
    rw [nI_1]
    exact ih (i + 1) _ m' (by omega) (hF.tr (f1.RT (by decide))) (hI.scr f1 (by decide)) (hR.fr (f1 33 (by decide)) (f1 39 (by decide))) k
theorem r_d194 (hO : OKL lw) {m0 : pm_M} {d : Value} : ∀ (c i : Nat) (h : Int64) (m : pm_M), i + c = 3 → Fr RT m0 m → IR m tx u lw ow sf sl si lt → GR m tx u → (∀ m' : pm_M, Fr RT m0 m' → IR m' tx u lw ow sf sl si lt → GR m' tx u → pm_Ex ro m_X10_digest 225 [.ref 33, .long (fo (fR lw) c i h), .null, .int (nI 1), d] [] m' Q) → pm_Ex ro m_X10_digest 194 [.ref 33, .long h, .null, .int (nI i), d] [] m Q := by
  intro c
  induction c with
  | zero =>
    intro i h m hi hF hI hR k
    have e : i = 3 := by omega
    subst e
    exact bk_X10_digest_194 ⟨fun _ => k m hF hI hR, fun q => absurd (by decide) q⟩
  | succ c ih =>
    intro i h m hi hF hI hR k
    refine bk_X10_digest_194 ⟨fun q => ?_, fun _ => ?_⟩
    · have q : nI 3 ≤ nI i := q
      rw [nI_leI (by decide) (by omega)] at q
      omega
    refine r_roundsOf (p := 500) (n := 21) hO (by decide) (by decide) (show i ≤ 2 by omega) hI.2.1 (fun m' f1 => bk_X10_digest_214 ?_)
    rw [nI_1]
    exact ih (i + 1) _ m' (by omega) (hF.tr (f1.RT (by decide))) (hI.scr f1 (by decide)) (hR.fr (f1 33 (by decide)) (f1 39 (by decide))) k
theorem r_d233 (hO : OKL lw) {m : pm_M} (hL : LR m lw) {y : Nat} (hy1 : 1 ≤ y) (hy : y ≤ 3) : ∀ (c i : Nat) (h : Int64), i + c = 4 → pm_Ex ro m_X10_digest 225 [.ref 33, .long (fo (fun k => (nI (fgs lw y k)).toInt64) c i h), .null, .int (nI (y + 1)), .int (nI 4)] [] m Q → pm_Ex ro m_X10_digest 233 [.ref 33, .long h, .null, .int (nI y), .int (nI i)] [] m Q := by
  intro c
  induction c with
  | zero =>
    intro i h hi k
    have e : i = 4 := by omega
    subst e
    refine bk_X10_digest_233 ⟨fun _ => ?_, fun q => absurd (by decide) q⟩
    rw [nI_1]
    exact k
  | succ c ih =>
    intro i h hi k
    refine bk_X10_digest_233 ⟨fun q => ?_, fun _ => ?_⟩
    · have q : nI 4 ≤ nI i := q
      rw [nI_leI (by decide) (by omega)] at q
      omega
    refine r_figuresOf hO hL hy1 hy (by omega) (bk_X10_digest_251 ?_)
    rw [nI_1]
    exact ih (i + 1) _ (by omega) k
theorem r_d225 (hO : OKL lw) {m : pm_M} (hI : IR m tx u lw ow sf sl si lt) (hR : GR m tx u) : ∀ (c y : Nat) (h : Int64) (d : Value), y + c = 4 → 1 ≤ y → (∀ (m' : pm_M) (d : Value), Fr RT m m' → IR m' tx u lw ow sf sl si lt → GR m' tx u → pm_Ex ro m_X10_digest 300 [.ref 33, .long (sD lw (fiS lw c y h)), .null, .int (nI 0), d] [] m' Q) → pm_Ex ro m_X10_digest 225 [.ref 33, .long h, .null, .int (nI y), d] [] m Q := by
  intro c
  induction c with
  | zero =>
    intro y h d hy hy1 k
    have e : y = 4 := by omega
    subst e
    refine bk_X10_digest_225 ⟨fun _ => ?_, fun q => absurd (by decide) q⟩
    refine r_rentOf (mo := false) (r := 60) (ms := 3) hO (by decide) (by decide) hI.2.1 (fun m1 f1 => bk_X10_digest_279 ?_)
    have g1 := hI.scr f1 (by decide)
    refine r_rentOf (mo := true) (r := 60) (ms := 3) hO (by decide) (by decide) g1.2.1 (fun m2 f2 => bk_X10_digest_295 ?_)
    exact k m2 d ((f1.RT (by decide)).tr (f2.RT (by decide))) (g1.scr f2 (by decide)) ((hR.fr (f1 33 (by decide)) (f1 39 (by decide))).fr (f2 33 (by decide)) (f2 39 (by decide)))
  | succ c ih =>
    intro y h d hy hy1 k
    refine bk_X10_digest_225 ⟨fun q => ?_, fun _ => ?_⟩
    · have q : nI 4 ≤ nI y := q
      rw [nI_leI (by decide) (by omega)] at q
      omega
    exact r_d233 hO hI.2.1 hy1 (by omega) 4 0 h rfl (ih (y + 1) _ _ (by omega) (by omega) k)
theorem r_d308 (hO : OK lw ow sf sl) {m : pm_M} (hI : IR m tx u lw ow sf sl si lt) (hR : GR m tx u) {p : Nat} (hp : p < 4) : ∀ (c i : Nat) (h : Int64), i + c = 2 → pm_Ex ro m_X10_digest 300 [.ref 33, .long (fo (fun k => shaS (brS (wN tx u lw ow) p 16) k) c i h), .null, .int (nI (p + 1)), .int (nI 2)] [] m Q → pm_Ex ro m_X10_digest 308 [.ref 33, .long h, .null, .int (nI p), .int (nI i)] [] m Q := by
  intro c
  induction c with
  | zero =>
    intro i h hi k
    have e : i = 2 := by omega
    subst e
    refine bk_X10_digest_308 ⟨fun _ => ?_, fun q => absurd (by decide) q⟩
    rw [nI_1]
    exact k
  | succ c ih =>
    intro i h hi k
    refine bk_X10_digest_308 ⟨fun q => ?_, fun _ => ?_⟩
    · have q : nI 2 ≤ nI i := q
      rw [nI_leI (by decide) (by omega)] at q
      omega
    refine r_shareOf hO hI hR hp (by omega) (bk_X10_digest_326 ?_)
    rw [nI_1]
    exact ih (i + 1) _ (by omega) k
theorem r_d300 (hO : OK lw ow sf sl) {m : pm_M} (hI : IR m tx u lw ow sf sl si lt) (hR : GR m tx u) : ∀ (c p : Nat) (h : Int64) (d : Value), p + c = 4 → (∀ m' : pm_M, Fr RT m m' → IR m' tx u lw ow sf sl si lt → Q (some (.long (sE lw (shR tx u lw ow c p h)))) m') → pm_Ex ro m_X10_digest 300 [.ref 33, .long h, .null, .int (nI p), d] [] m Q := by
  intro c
  induction c with
  | zero =>
    intro p h d hp k
    have e : p = 4 := by omega
    subst e
    refine bk_X10_digest_300 ⟨fun _ => ?_, fun q => absurd (by decide) q⟩
    refine r_gameOf (am := 14) (n := 5) (E := 31) (what := 0) hO.1 (by decide) (by decide) (by decide) (by decide) (by decide) (by decide) (by decide) hI.2.1 (fun m1 f1 => bk_X10_digest_355 ?_)
    have g1 := hI.scr f1 (by decide)
    refine r_gameOf (am := 14) (n := 5) (E := 31) (what := 1) hO.1 (by decide) (by decide) (by decide) (by decide) (by decide) (by decide) (by decide) g1.2.1 (fun m2 f2 => bk_X10_digest_373 ?_)
    exact k m2 ((f1.RT (by decide)).tr (f2.RT (by decide))) (g1.scr f2 (by decide))
  | succ c ih =>
    intro p h d hp k
    refine bk_X10_digest_300 ⟨fun q => ?_, fun _ => ?_⟩
    · have q : nI 4 ≤ nI p := q
      rw [nI_leI (by decide) (by omega)] at q
      omega
    exact r_d308 hO hI hR (by omega) 2 0 h rfl (ih (p + 1) _ _ (by omega) k)
theorem r_digest (hO : OK lw ow sf sl) {m : pm_M} (hI : IR m tx u lw ow sf sl si lt) (k : ∀ m' : pm_M, Fr RT m m' → IR m' tx u lw ow sf sl si lt → Q (some (.long (dgV tx u lw ow lt))) m') : pm_Ex ro m_X10_digest 0 [.ref 33, .null, .null, .null, .null] [] m Q :=
  bk_X10_digest_0 (r_d6 8 0 17 m rfl (Fr.rf _ _) hI (fun _ f1 g1 r1 => r_d45 hO.1 g1 r1 (pzG tx u) 0 _ _ (Nat.zero_add _) (fun _ => r_d124 hO.1 4 0 _ _ rfl f1 g1 r1 (fun _ f2 g2 r2 => r_d194 hO.1 3 0 _ _ rfl f2 g2 r2 (fun _ f3 g3 r3 => r_d225 hO.1 g3 r3 3 1 _ _ rfl (by decide) (fun _ _ f4 g4 r4 => r_d300 hO g4 r4 4 0 _ _ rfl (fun m5 f5 g5 => k m5 ((f3.tr f4).tr f5) g5)))))))
theorem ag_digest (h51 : ro 51 = some (4, c51)) (hO : OK lw ow sf sl) : AGl ro m_X9_digest [.ref 0, .null, .null, .null] m_X10_digest [.ref 33, .null, .null, .null, .null] (tx, u, lw, ow, sf, sl, si, lt) :=
  ⟨dgV tx u lw ow lt, (tx, u, lw, ow, sf, sl, si, lt), hO, fun _ _ hI k => c_digest h51 hO hI k, fun _ _ hI k => r_digest hO hI k⟩
end DGR
