/-! THE LAW'S LOOP -/
theorem IRs.fr {mem mem' : pm_M} {σ : SG} (h : IRs mem σ) (hF : Fr CT mem mem') : IRs mem' σ := IR.fr h hF
theorem ICs.fr {mem mem' : pm_M} {σ : SG} (h : ICs mem σ) (hF : Fr RT mem mem') : ICs mem' σ := IC.fr h hF
theorem lgc (r : Int64) : lg_cmp r r = 0 := by simp [lg_cmp]
section LAW
variable {ro : pm_RO} {Q P : Option Value → pm_M → Prop} {mem : pm_M} {σ : SG} {yC yR pc2 : Nat} {lsC lsR ls nx : List Value}
theorem law_i (h : AGi ro yC lsC yR lsR σ) (hC : ICs mem σ) (hR : IRs mem σ) (k1 : ∀ (r : Int32) (m1 : pm_M), pm_Ex ro yR 0 lsR [] m1 (fun v m => pm_Ex ro m_L_law pc2 ls (v.toList ++ [.int r]) m Q) → P (some (.int r)) m1) (k2 : ∀ (r : Int32) (m2 : pm_M), pm_Ex ro m_L_law 18 nx [] m2 Q → pm_Ex ro m_L_law pc2 ls [.int r, .int r] m2 Q)
    (k3 : ∀ (σ' : SG) (m2 : pm_M), OKs σ' → ICs m2 σ' → IRs m2 σ' → pm_Ex ro m_L_law 18 nx [] m2 Q) : pm_Ex ro yC 0 lsC [] mem P := by
  obtain ⟨r, σ', hO, c, rr⟩ := h
  exact c mem P hC (fun m1 f1 i1 => k1 r m1 (rr m1 _ (hR.fr f1) (fun m2 f2 i2 => k2 r m2 (k3 σ' m2 hO (i1.fr f2) i2))))
theorem law_l (h : AGl ro yC lsC yR lsR σ) (hC : ICs mem σ) (hR : IRs mem σ) (k1 : ∀ (r : Int64) (m1 : pm_M), pm_Ex ro yR 0 lsR [] m1 (fun v m => pm_Ex ro m_L_law pc2 ls (v.toList ++ [.long r]) m Q) → P (some (.long r)) m1) (k2 : ∀ (r : Int64) (m2 : pm_M), pm_Ex ro m_L_law 18 nx [] m2 Q → pm_Ex ro m_L_law pc2 ls [.long r, .long r] m2 Q)
    (k3 : ∀ (σ' : SG) (m2 : pm_M), OKs σ' → ICs m2 σ' → IRs m2 σ' → pm_Ex ro m_L_law 18 nx [] m2 Q) : pm_Ex ro yC 0 lsC [] mem P := by
  obtain ⟨r, σ', hO, c, rr⟩ := h
  exact c mem P hC (fun m1 f1 i1 => k1 r m1 (rr m1 _ (hR.fr f1) (fun m2 f2 i2 => k2 r m2 (k3 σ' m2 hO (i1.fr f2) i2))))
end LAW
theorem law_loop {ro : pm_RO} {Q : Option Value → pm_M → Prop} (h49 : ro 49 = some (4, c49)) (h50 : ro 50 = some (4, c50)) (h51 : ro 51 = some (4, c51)) {L : Nat} {rf : Nat → Int32} (hr : ro 52 = some (L, rf)) (hL : L ≤ 3072) (k : ∀ m : pm_M, Q (some (.int 1)) m) : ∀ (n i : Nat) (σ : SG) (mem : pm_M), L ≤ i + n → i ≤ 3072 → OKs σ → ICs mem σ → IRs mem σ → pm_Ex ro m_L_law 18 [.ref 52, .ref 0, .ref 33, .int (nI i)] [] mem Q := by
  have e6 : Int32.ofNat L - 6 = nI L - nI 6 := rfl
  have hlt : ∀ i : Nat, i ≤ 3072 → (Int32.ofNat L - 6 < nI i ↔ L < i + 6) := by
    intro i hi
    rw [e6, Int32.lt_iff_toInt_lt, pk_sub_toInt (by omega) (by decide), nI_toInt (by omega)]
    omega
  intro n
  induction n with
  | zero =>
    intro i σ mem hn hi hO hC hR
    exact bk_L_law_18 hr ⟨fun _ => k mem, fun q => absurd ((hlt i hi).mpr (by omega)) q⟩
  | succ n ih =>
    intro i σ mem hn hi hO hC hR
    refine bk_L_law_18 hr ⟨fun _ => k mem, fun q => ?_⟩
    have hi6 : i + 6 ≤ L := Nat.le_of_not_lt (fun z => q ((hlt i hi).mpr z))
    have go : ∀ (σ' : SG) (m2 : pm_M), OKs σ' → ICs m2 σ' → IRs m2 σ' → pm_Ex ro m_L_law 18 [.ref 52, .ref 0, .ref 33, .int (nI i + 6)] [] m2 Q := by
      intro σ' m2 a b c
      rw [show nI i + 6 = nI (i + 6) from nI_add i 6]
      exact ih (i + 6) σ' m2 (by omega) (by omega) a b c
    have i0 : pm_inb (nI i) L = true := nI_inb (by omega) (by omega)
    have i1 : pm_inb (nI i + 1) L = true := by rw [nI_1]; exact nI_inb (by omega) (by omega)
    have i2 : pm_inb (nI i + 2) L = true := by rw [show nI i + 2 = nI (i + 2) from nI_add i 2]; exact nI_inb (by omega) (by omega)
    have i3 : pm_inb (nI i + 3) L = true := by rw [show nI i + 3 = nI (i + 3) from nI_add i 3]; exact nI_inb (by omega) (by omega)
    have i4 : pm_inb (nI i + 4) L = true := by rw [show nI i + 4 = nI (i + 4) from nI_add i 4]; exact nI_inb (by omega) (by omega)
    have i5 : pm_inb (nI i + 5) L = true := by rw [show nI i + 5 = nI (i + 5) from nI_add i 5]; exact nI_inb (by omega) (by omega)
    refine ⟨i0, ?_⟩
    generalize (rf (nI i).toNatClampNeg) &&& 31 = s
    obtain ⟨tx, u, lw, ow, sf, sl, si, lt⟩ := σ
    have hO : OK lw ow sf sl := hO
    by_cases h0 : s = 0
    · subst h0
      exact bk_L_law_33_c0 hr ⟨i1, law_i (ag_type hO _) hC hR (fun r m1 z => bk_L_law_165 hr ⟨i1, z⟩) (fun r m2 z => bk_L_law_174 ⟨fun _ => z, fun y => absurd rfl y⟩) go⟩
    by_cases h1 : s = 1
    · subst h1
      exact bk_L_law_33_c1 (law_i (ag_wipe hO) hC hR (fun r m1 z => bk_L_law_183 z) (fun r m2 z => bk_L_law_187 ⟨fun _ => z, fun y => absurd rfl y⟩) go)
    by_cases h2 : s = 2
    · subst h2
      exact bk_L_law_33_c2 (law_i (ag_fault hO) hC hR (fun r m1 z => bk_L_law_196 z) (fun r m2 z => bk_L_law_200 ⟨fun _ => z, fun y => absurd rfl y⟩) go)
    by_cases h3 : s = 3
    · subst h3
      exact bk_L_law_33_c3 hr ⟨i1, i2, law_i (ag_good hO _ _) hC hR (fun r m1 z => bk_L_law_219 hr ⟨i1, i2, z⟩) (fun r m2 z => bk_L_law_233 ⟨fun _ => z, fun y => absurd rfl y⟩) go⟩
    by_cases h4 : s = 4
    · subst h4
      exact bk_L_law_33_c4 hr ⟨i1, i2, law_i (ag_set h49 h50 hO _ _) hC hR (fun r m1 z => bk_L_law_252 hr ⟨i1, i2, z⟩) (fun r m2 z => bk_L_law_266 ⟨fun _ => z, fun y => absurd rfl y⟩) go⟩
    by_cases h5 : s = 5
    · subst h5
      exact bk_L_law_33_c5 hr ⟨i1, i2, law_i (ag_partner hO _ _) hC hR (fun r m1 z => bk_L_law_285 hr ⟨i1, i2, z⟩) (fun r m2 z => bk_L_law_299 ⟨fun _ => z, fun y => absurd rfl y⟩) go⟩
    by_cases h6 : s = 6
    · subst h6
      exact bk_L_law_33_c6 hr ⟨i1, law_i (ag_read hO _) hC hR (fun r m1 z => bk_L_law_313 hr ⟨i1, z⟩) (fun r m2 z => bk_L_law_322 ⟨fun _ => z, fun y => absurd rfl y⟩) go⟩
    by_cases h7 : s = 7
    · subst h7
      exact bk_L_law_33_c7 hr ⟨i1, law_i (ag_paid hO _) hC hR (fun r m1 z => bk_L_law_336 hr ⟨i1, z⟩) (fun r m2 z => bk_L_law_345 ⟨fun _ => z, fun y => absurd rfl y⟩) go⟩
    by_cases h8 : s = 8
    · subst h8
      exact bk_L_law_33_c8 hr ⟨i1, i2, law_i (ag_bill hO _ _) hC hR (fun r m1 z => bk_L_law_364 hr ⟨i1, i2, z⟩) (fun r m2 z => bk_L_law_378 ⟨fun _ => z, fun y => absurd rfl y⟩) go⟩
    by_cases h9 : s = 9
    · subst h9
      exact bk_L_law_33_c9 hr ⟨i1, law_i (ag_bought hO _) hC hR (fun r m1 z => bk_L_law_392 hr ⟨i1, z⟩) (fun r m2 z => bk_L_law_401 ⟨fun _ => z, fun y => absurd rfl y⟩) go⟩
    by_cases h10 : s = 10
    · subst h10
      exact bk_L_law_33_c10 hr ⟨i1, law_i (ag_added hO _) hC hR (fun r m1 z => bk_L_law_415 hr ⟨i1, z⟩) (fun r m2 z => bk_L_law_424 ⟨fun _ => z, fun y => absurd rfl y⟩) go⟩
    by_cases h11 : s = 11
    · subst h11
      exact bk_L_law_33_c11 hr ⟨i1, i2, law_i (ag_proof hO _ _) hC hR (fun r m1 z => bk_L_law_443 hr ⟨i1, i2, z⟩) (fun r m2 z => bk_L_law_457 ⟨fun _ => z, fun y => absurd rfl y⟩) go⟩
    by_cases h12 : s = 12
    · subst h12
      exact bk_L_law_33_c12 hr ⟨i1, i2, law_i (ag_raised hO _ _) hC hR (fun r m1 z => bk_L_law_476 hr ⟨i1, i2, z⟩) (fun r m2 z => bk_L_law_490 ⟨fun _ => z, fun y => absurd rfl y⟩) go⟩
    by_cases h13 : s = 13
    · subst h13
      exact bk_L_law_33_c13 hr ⟨i1, i2, i3, law_i (ag_rounds hO _ _ _) hC hR (fun r m1 z => bk_L_law_514 hr ⟨i1, i2, i3, z⟩) (fun r m2 z => bk_L_law_533 ⟨fun _ => z, fun y => absurd rfl y⟩) go⟩
    by_cases h14 : s = 14
    · subst h14
      exact bk_L_law_33_c14 hr ⟨i1, i2, law_i (ag_figures hO _ _) hC hR (fun r m1 z => bk_L_law_552 hr ⟨i1, i2, z⟩) (fun r m2 z => bk_L_law_566 ⟨fun _ => z, fun y => absurd rfl y⟩) go⟩
    by_cases h15 : s = 15
    · subst h15
      exact bk_L_law_33_c15 hr ⟨i1, i2, i3, law_i (ag_rent hO _ _ _) hC hR (fun r m1 z => bk_L_law_590 hr ⟨i1, i2, i3, z⟩) (fun r m2 z => bk_L_law_609 ⟨fun _ => z, fun y => absurd rfl y⟩) go⟩
    by_cases h16 : s = 16
    · subst h16
      exact bk_L_law_33_c16 hr ⟨i1, i2, law_l (ag_share h51 hO _ _) hC hR (fun r m1 z => bk_L_law_628 hr ⟨i1, i2, z⟩) (fun r m2 z => bk_L_law_642 ⟨fun _ => z, fun y => absurd (lgc r) y⟩) go⟩
    by_cases h17 : s = 17
    · subst h17
      exact bk_L_law_33_c17 hr ⟨i1, i2, law_i (ag_smudged hO _ _) hC hR (fun r m1 z => bk_L_law_662 hr ⟨i1, i2, z⟩) (fun r m2 z => bk_L_law_676 ⟨fun _ => z, fun y => absurd rfl y⟩) go⟩
    by_cases h18 : s = 18
    · subst h18
      exact bk_L_law_33_c18 hr ⟨i1, i2, i3, i4, law_i (ag_game hO _ _ _ _) hC hR (fun r m1 z => bk_L_law_705 hr ⟨i1, i2, i3, i4, z⟩) (fun r m2 z => bk_L_law_729 ⟨fun _ => z, fun y => absurd rfl y⟩) go⟩
    by_cases h19 : s = 19
    · subst h19
      exact bk_L_law_33_c19 hr ⟨i1, i2, i3, law_i (ag_sheet hO _ _ _) hC hR (fun r m1 z => bk_L_law_753 hr ⟨i1, i2, i3, z⟩) (fun r m2 z => bk_L_law_772 ⟨fun _ => z, fun y => absurd rfl y⟩) go⟩
    by_cases h20 : s = 20
    · subst h20
      exact bk_L_law_33_c20 hr ⟨i1, law_i (ag_lose hO _) hC hR (fun r m1 z => bk_L_law_786 hr ⟨i1, z⟩) (fun r m2 z => bk_L_law_795 ⟨fun _ => z, fun y => absurd rfl y⟩) go⟩
    by_cases h21 : s = 21
    · subst h21
      exact bk_L_law_33_c21 hr ⟨i1, i2, i3, i4, law_i (ag_lay hO _ _ _ _) hC hR (fun r m1 z => bk_L_law_824 hr ⟨i1, i2, i3, i4, z⟩) (fun r m2 z => bk_L_law_848 ⟨fun _ => z, fun y => absurd rfl y⟩) go⟩
    by_cases h22 : s = 22
    · subst h22
      exact bk_L_law_33_c22 hr ⟨i1, i2, i3, law_i (ag_get hO _ _ _) hC hR (fun r m1 z => bk_L_law_872 hr ⟨i1, i2, i3, z⟩) (fun r m2 z => bk_L_law_891 ⟨fun _ => z, fun y => absurd rfl y⟩) go⟩
    by_cases h23 : s = 23
    · subst h23
      exact bk_L_law_33_c23 hr ⟨i1, i2, i3, i4, i5, law_i (ag_copy hO _ _ _ _ _) hC hR (fun r m1 z => bk_L_law_925 hr ⟨i1, i2, i3, i4, i5, z⟩) (fun r m2 z => bk_L_law_954 ⟨fun _ => z, fun y => absurd rfl y⟩) go⟩
    by_cases h24 : s = 24
    · subst h24
      exact bk_L_law_33_c24 hr ⟨i1, i2, law_i (ag_write hO _ _) hC hR (fun r m1 z => bk_L_law_973 hr ⟨i1, i2, z⟩) (fun r m2 z => bk_L_law_987 ⟨fun _ => z, fun y => absurd rfl y⟩) go⟩
    by_cases h25 : s = 25
    · subst h25
      exact bk_L_law_33_c25 hr ⟨i1, law_i (ag_count hO _) hC hR (fun r m1 z => bk_L_law_1001 hr ⟨i1, z⟩) (fun r m2 z => bk_L_law_1010 ⟨fun _ => z, fun y => absurd rfl y⟩) go⟩
    by_cases h26 : s = 26
    · subst h26
      exact bk_L_law_33_c26 (law_l (ag_digest h51 hO) hC hR (fun r m1 z => bk_L_law_1019 z) (fun r m2 z => bk_L_law_1023 ⟨fun _ => z, fun y => absurd (lgc r) y⟩) go)
    exact bk_L_law_33_d h0 h1 h2 h3 h4 h5 h6 h7 h8 h9 h10 h11 h12 h13 h14 h15 h16 h17 h18 h19 h20 h21 h22 h23 h24 h25 h26 (go (tx, u, lw, ow, sf, sl, si, lt) mem hO hC hR)
