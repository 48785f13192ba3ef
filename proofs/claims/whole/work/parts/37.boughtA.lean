/-! bought agrees -/
section BGA
variable {ro : pm_RO} {Q : Option Value → pm_M → Prop} {tx : Nat → Nat} {u : Nat} {lw ow : Nat → Nat} {sf : Nat → Int32} {sl : Nat → Nat} {si : Nat → Nat → Int32} {lt : Int32}
def stp (tx : Nat → Nat) (u : Nat) (lw : Nat → Nat) (k : Nat) (a : Nat × Nat × Nat × Nat) (s : Nat) : Nat × Nat × Nat × Nat :=
  if s &&& pzW tx u = pzW tx u ∧ ((k = 0 ∧ s = 0) ∨ (0 < k ∧ s ≠ 0 ∧ k ≤ pc8 s)) then
    (if mnk tx u lw k s < a.1 then (mnk tx u lw k s, k, s, max a.2.2.2 (mxk tx u lw k s)) else (a.1, a.2.1, a.2.2.1, max a.2.2.2 (mxk tx u lw k s)))
  else a
theorem stp_btS {k s : Nat} (hk : 0 < k) (hs : s ≠ 0) (a : Nat × Nat × Nat × Nat) : stp tx u lw k a s = btS tx u lw k a s := by
  unfold stp btS
  by_cases h : s &&& pzW tx u = pzW tx u ∧ k ≤ pc8 s
  · rw [if_pos (show _ ∧ _ from ⟨h.1, Or.inr ⟨hk, hs, h.2⟩⟩), if_pos h]
  · rw [if_neg, if_neg h]
    rintro ⟨h1, h2 | h2⟩
    · omega
    · exact h ⟨h1, h2.2.2⟩
theorem fold_ext {α : Type} {f g : α → Nat → α} : ∀ (c s : Nat) (a : α), (∀ a q, s ≤ q → q < s + c → f a q = g a q) → (List.range' s c).foldl f a = (List.range' s c).foldl g a := by
  intro c
  induction c with
  | zero => intro s a _; rfl
  | succ c ih =>
    intro s a h
    rw [List.range'_succ, List.foldl_cons, List.foldl_cons, h a s (Nat.le_refl _) (by omega)]
    exact ih (s + 1) _ (fun a q h1 h2 => h a q (by omega) (by omega))
theorem fold_id {α : Type} {f : α → Nat → α} : ∀ (c s : Nat) (a : α), (∀ a q, s ≤ q → q < s + c → f a q = a) → (List.range' s c).foldl f a = a := by
  intro c
  induction c with
  | zero => intro s a _; rfl
  | succ c ih =>
    intro s a h
    rw [List.range'_succ, List.foldl_cons, h a s (Nat.le_refl _) (by omega)]
    exact ih (s + 1) _ (fun a q h1 h2 => h a q (by omega) (by omega))
theorem r0_s {n : Nat} (h : 1 ≤ n) : List.range' 0 n = 0 :: List.range' 1 (n - 1) := by
  obtain ⟨c, rfl⟩ : ∃ c, n = c + 1 := ⟨n - 1, by omega⟩
  rw [List.range'_succ, Nat.add_sub_cancel]
theorem lev_k {k : Nat} (hk : 0 < k) (a : Nat × Nat × Nat × Nat) : (List.range' 0 (2 ^ pzG tx u)).foldl (stp tx u lw k) a = btK tx u lw a k := by
  rw [r0_s (p2_pos _), List.foldl_cons]
  have e : stp tx u lw k a 0 = a := if_neg (by rintro ⟨-, h | h⟩ <;> omega)
  rw [e]
  exact fold_ext _ _ _ (fun a q h1 h2 => stp_btS hk (by omega) a)
theorem lev_0 : (List.range' 0 (2 ^ pzG tx u)).foldl (stp tx u lw 0) (2147483647, 0, 0, 0) = bt0 tx u := by
  rw [r0_s (p2_pos _), List.foldl_cons, fold_id (f := stp tx u lw 0) _ _ _ (fun a q h1 h2 => if_neg (by rintro ⟨-, h | h⟩ <;> omega))]
  unfold stp bt0
  by_cases h : pzW tx u = 0
  · rw [if_pos ⟨by rw [h]; rfl, Or.inl ⟨rfl, rfl⟩⟩, if_pos h, if_pos (by simp [mnk])]
    simp [mnk, mxk]
  · rw [if_neg (fun q => h (by have := q.1; rw [Nat.zero_and] at this; exact this.symm)), if_neg h]
theorem btS_le (k : Nat) (a : Nat × Nat × Nat × Nat) (s : Nat) : (btS tx u lw k a s).1 ≤ a.1 := by
  unfold btS
  split
  · split
    · simp only; omega
    · exact Nat.le_refl _
  · exact Nat.le_refl _
theorem btF_le (k : Nat) : ∀ (l : List Nat) (a : Nat × Nat × Nat × Nat), (l.foldl (btS tx u lw k) a).1 ≤ a.1 := by
  intro l
  induction l with
  | nil => intro a; exact Nat.le_refl _
  | cons x l ih => intro a; rw [List.foldl_cons]; exact Nat.le_trans (ih _) (btS_le k a x)
theorem btF_in {k s : Nat} (hc : s &&& pzW tx u = pzW tx u ∧ k ≤ pc8 s) : ∀ (l : List Nat) (a : Nat × Nat × Nat × Nat), s ∈ l → (l.foldl (btS tx u lw k) a).1 ≤ mnk tx u lw k s := by
  intro l
  induction l with
  | nil => intro a h; cases h
  | cons x l ih =>
    intro a h
    rw [List.foldl_cons]
    rcases List.mem_cons.mp h with z | z
    · subst z
      refine Nat.le_trans (btF_le k l _) ?_
      unfold btS
      rw [if_pos hc]
      split
      · exact Nat.le_refl _
      · next q => simp only; omega
    · exact ih _ z
theorem btA_lt (hO : OKL lw) : (btA tx u lw).1 < 100000000 := by
  have hl3 := hO.2.2.2.2
  have mono : ∀ (l : List Nat) (a : Nat × Nat × Nat × Nat), (l.foldl (btK tx u lw) a).1 ≤ a.1 := by
    intro l
    induction l with
    | nil => intro a; exact Nat.le_refl _
    | cons x l ih => intro a; rw [List.foldl_cons]; exact Nat.le_trans (ih _) (btF_le x _ a)
  have e1 : btA tx u lw = (List.range' 2 (lw 3 - 1)).foldl (btK tx u lw) (btK tx u lw (bt0 tx u) 1) := by
    unfold btA
    have e1 : List.range' 1 (lw 3) = 1 :: List.range' 2 (lw 3 - 1) := by
      obtain ⟨c, hc⟩ : ∃ c, lw 3 = c + 1 := ⟨lw 3 - 1, by omega⟩
      rw [hc, List.range'_succ, Nat.add_sub_cancel]
    rw [e1, List.foldl_cons]
  have h1 : (btA tx u lw).1 ≤ (btK tx u lw (bt0 tx u) 1).1 := by rw [e1]; exact mono _ _
  by_cases h : pzW tx u = 0
  · have h2 : (btK tx u lw (bt0 tx u) 1).1 ≤ (bt0 tx u).1 := btF_le 1 _ _
    have h3 : (bt0 tx u).1 = 0 := if_pos h
    omega
  · have hW := pzW_256 tx u
    have h2 : (btK tx u lw (bt0 tx u) 1).1 ≤ mnk tx u lw 1 (pzW tx u) := by
      refine btF_in ⟨Nat.and_self _, ?_⟩ _ _ ?_
      · have : ¬ pc8 (pzW tx u) = 0 := fun q => h ((pc8_z hW).mp q)
        omega
      · rw [List.mem_range'_1]
        have := pzW_lt tx u
        omega
    have h3 := cst_le (tx := tx) (u := u) hO (pzW tx u)
    have h4 : mnk tx u lw 1 (pzW tx u) = cst tx u lw (pzW tx u) := rfl
    omega
def Rel (a : Nat × Nat × Nat × Nat) (x2 x3 x4 x5 : Int32) : Prop := (a = (2147483647, 0, 0, 0) ∧ x2 = 100000000 ∧ x3 = 0 ∧ x4 = 0 ∧ x5 = -1) ∨ (x2 = nI a.1 ∧ x3 = nI a.2.1 ∧ x4 = nI a.2.2.1 ∧ x5 = nI a.2.2.2 ∧ a.1 < 100000000 ∧ a.2.2.2 ≤ 1500000)
theorem Rel.st {a : Nat × Nat × Nat × Nat} {x2 x3 x4 x5 : Int32} (h : Rel a x2 x3 x4 x5) {k s : Nat} (hc : s &&& pzW tx u = pzW tx u ∧ ((k = 0 ∧ s = 0) ∨ (0 < k ∧ s ≠ 0 ∧ k ≤ pc8 s))) (h1 : mnk tx u lw k s ≤ 1500000) (h2 : mxk tx u lw k s ≤ 1500000) :
    Rel (stp tx u lw k a s) (if x2 ≤ nI (mnk tx u lw k s) then x2 else nI (mnk tx u lw k s)) (if x2 ≤ nI (mnk tx u lw k s) then x3 else nI k) (if x2 ≤ nI (mnk tx u lw k s) then x4 else nI s) (if nI (mxk tx u lw k s) ≤ x5 then x5 else nI (mxk tx u lw k s)) := by
  unfold stp
  rw [if_pos hc]
  rcases h with ⟨rfl, rfl, rfl, rfl, rfl⟩ | ⟨rfl, rfl, rfl, rfl, h3, h4⟩
  · have e1 : ¬ (100000000 : Int32) ≤ nI (mnk tx u lw k s) := by rw [show (100000000 : Int32) = nI 100000000 from rfl, nI_leI (by decide) (by omega)]; omega
    have e2 : ¬ nI (mxk tx u lw k s) ≤ -1 := by
      rw [Int32.le_iff_toInt_le, nI_toInt (by omega), show (-1 : Int32).toInt = -1 from rfl]; omega
    rw [if_neg e1, if_neg e1, if_neg e1, if_neg e2, if_pos (by simp only; omega)]
    refine Or.inr ⟨rfl, rfl, rfl, ?_, by simp only; omega, by simp only; omega⟩
    simp only [Nat.zero_max]
  · have e2 : (if nI (mxk tx u lw k s) ≤ nI a.2.2.2 then nI a.2.2.2 else nI (mxk tx u lw k s) : Int32) = nI (max a.2.2.2 (mxk tx u lw k s)) := by
      by_cases hq : mxk tx u lw k s ≤ a.2.2.2
      · rw [if_pos ((nI_leI (by omega) (by omega)).mpr hq), show max a.2.2.2 (mxk tx u lw k s) = a.2.2.2 by omega]
      · rw [if_neg (fun z => hq ((nI_leI (by omega) (by omega)).mp z)), show max a.2.2.2 (mxk tx u lw k s) = mxk tx u lw k s by omega]
    rw [e2]
    by_cases hq : a.1 ≤ mnk tx u lw k s
    · have hq' := (nI_leI (show a.1 < 2 ^ 31 by omega) (show mnk tx u lw k s < 2 ^ 31 by omega)).mpr hq
      rw [if_pos hq', if_pos hq', if_pos hq', if_neg (by omega)]
      exact Or.inr ⟨rfl, rfl, rfl, rfl, h3, by simp only; omega⟩
    · have hq' : ¬ nI a.1 ≤ nI (mnk tx u lw k s) := fun z => hq ((nI_leI (by omega) (by omega)).mp z)
      rw [if_neg hq', if_neg hq', if_neg hq', if_pos (by omega)]
      exact Or.inr ⟨rfl, rfl, rfl, rfl, by simp only; omega, by simp only; omega⟩
theorem r_boughtOf (hO : OKL lw) {m0 : pm_M} (hL : LR m0 lw) (hR : GR m0 tx u) {w : Nat} (hw : w ≤ 3) (kk : ∀ m : pm_M, Fr [42, 43, 44] m0 m → Q (some (.int (nI (bt4 (btA tx u lw) w)))) m) : pm_Ex ro m_X10_boughtOf 0 [.ref 33, .int (nI w), .null, .null, .null, .null, .null, .null, .null, .null] [] m0 Q := by
  have hG := pzG_le tx u
  have hG2 := p2_le hG
  have hG1 := p2_pos (pzG tx u)
  have hl3 := hO.2.2.2.2
  have hW := pzW_256 tx u
  refine bk_X10_boughtOf_0 (r_findBills hO hL hR (fun m hF hl => bk_X10_boughtOf_4 ?_))
  have kk := kk m hF
  have inn : ∀ (k : Nat), k ≤ lw 3 → ∀ (af : Nat × Nat × Nat × Nat), (∀ (x2 x3 x4 x5 : Int32), Rel af x2 x3 x4 x5 → ∀ {d7 d8 d9 : Value}, pm_Ex ro m_X10_boughtOf 18 [.ref 33, .int (nI w), .int x2, .int x3, .int x4, .int x5, .int (nI (k + 1)), d7, d8, d9] [] m Q) →
      ∀ (e s : Nat) (a : Nat × Nat × Nat × Nat) (x2 x3 x4 x5 : Int32), s + e = 2 ^ pzG tx u → Rel a x2 x3 x4 x5 → (List.range' s e).foldl (stp tx u lw k) a = af → ∀ {d8 d9 : Value}, pm_Ex ro m_X10_boughtOf 32 [.ref 33, .int (nI w), .int x2, .int x3, .int x4, .int x5, .int (nI k), .int (nI s), d8, d9] [] m Q := by
    intro k hk af nxt e
    induction e with
    | zero =>
      intro s a x2 x3 x4 x5 hs hA he d8 d9
      refine bk_X10_boughtOf_32 ?_
      rw [hF 33 (by decide), hR.1, whl hG, nI_1]
      refine ⟨fun _ => ?_, fun q => absurd (nI_lt (by omega) (by omega)) q⟩
      have he : a = af := he
      rw [he] at hA
      exact nxt x2 x3 x4 x5 hA
    | succ e ih =>
      intro s a x2 x3 x4 x5 hs hA he d8 d9
      rw [List.range'_succ, List.foldl_cons] at he
      refine bk_X10_boughtOf_32 ?_
      rw [hF 33 (by decide), hR.1, whl hG, hR.2.1, show (256 : Int32) = nI 256 from rfl, pk_mul, nI_add, nI_clamp (by omega)]
      refine ⟨fun q => ?_, fun _ => ⟨nI_inb (by omega) (by decide), ?_⟩⟩
      · rw [nI_ltI (by omega) (by omega)] at q; omega
      have hE := (mskW (s := s) (w := pzW tx u) (by omega) hW).1
      obtain ⟨r1, r2⟩ := hl k hk s (by omega)
      by_cases hh : hasK' k s
      · obtain ⟨r1, r1'⟩ := r1 hh
        have hb := (mk_all (tx := tx) (u := u) hO k (by omega) s (by omega) hh).1
        have hbk : k * 300000 ≤ 4 * 300000 := Nat.mul_le_mul_right _ (by omega)
        rw [r1, r1']
        have hlt : ¬ (100000000 : Int32) ≤ nI (mnk tx u lw k s) := by rw [show (100000000 : Int32) = nI 100000000 from rfl, nI_leI (by decide) (by omega)]; omega
        by_cases hsw : s &&& pzW tx u = pzW tx u
        · have may : ¬ (¬ (nI (pzW tx u) &&& (nI s ^^^ (-1))) = 0) ∧ ¬ (100000000 : Int32) ≤ nI (mnk tx u lw k s) := ⟨not_not_intro (hE.mpr hsw), hlt⟩
          have hst := hA.st (tx := tx) (u := u) (lw := lw) (k := k) (s := s) ⟨hsw, hh⟩ (by omega) (by omega)
          refine ⟨fun _ => ⟨nI_inb (by omega) (by decide), fun y => ?_, fun y => ⟨nI_inb (by omega) (by decide), ?_⟩⟩, fun q => absurd may q⟩
          · rw [if_pos y] at hst
            rw [if_pos may, if_pos may, if_pos may, nI_1]
            exact ih (s + 1) _ _ _ _ _ (by omega) hst he
          · rw [if_neg y] at hst
            rw [if_pos may, if_pos may, if_pos may, nI_1]
            exact ih (s + 1) _ _ _ _ _ (by omega) hst he
        · have may : ¬ (¬ (¬ (nI (pzW tx u) &&& (nI s ^^^ (-1))) = 0) ∧ ¬ (100000000 : Int32) ≤ nI (mnk tx u lw k s)) := fun q => hsw (hE.mp (Decidable.of_not_not q.1))
          have est : stp tx u lw k a s = a := if_neg (fun q => hsw q.1)
          rw [est] at he
          refine ⟨fun q => absurd q may, fun _ => ?_⟩
          rw [if_neg may, if_neg may, if_neg may, nI_1]
          exact ih (s + 1) _ _ _ _ _ (by omega) hA he
      · obtain ⟨r2, r2'⟩ := r2 hh
        rw [r2]
        have may : ¬ (¬ (¬ (nI (pzW tx u) &&& (nI s ^^^ (-1))) = 0) ∧ ¬ (100000000 : Int32) ≤ 100000000) := fun q => q.2 (by decide)
        have est : stp tx u lw k a s = a := if_neg (fun q => hh q.2)
        rw [est] at he
        refine ⟨fun q => absurd q may, fun _ => ?_⟩
        rw [if_neg may, if_neg may, if_neg may, nI_1]
        exact ih (s + 1) _ _ _ _ _ (by omega) hA he
  have out : ∀ (c k : Nat) (a : Nat × Nat × Nat × Nat) (x2 x3 x4 x5 : Int32), k + c = lw 3 → Rel a x2 x3 x4 x5 → (List.range' (k + 1) c).foldl (btK tx u lw) a = btA tx u lw → ∀ {d7 d8 d9 : Value}, pm_Ex ro m_X10_boughtOf 18 [.ref 33, .int (nI w), .int x2, .int x3, .int x4, .int x5, .int (nI (k + 1)), d7, d8, d9] [] m Q := by
    intro c
    induction c with
    | zero =>
      intro k a x2 x3 x4 x5 hk hA he d7 d8 d9
      have he : a = btA tx u lw := he
      rw [he] at hA
      refine bk_X10_boughtOf_18 ?_
      rw [hF 41 (by decide), hL 3 (by decide), nI_ltI (by omega) (by omega)]
      refine ⟨fun _ => ?_, fun q => by omega⟩
      have hlt := btA_lt (tx := tx) (u := u) hO
      rcases hA with ⟨z, -⟩ | ⟨z2, z3, z4, z5, -, -⟩
      · rw [z] at hlt; simp only at hlt; omega
      rw [z2, z3, z4, z5]
      rcases (show w = 0 ∨ w = 1 ∨ w = 2 ∨ w = 3 by omega) with rfl | rfl | rfl | rfl
      · rw [if_neg (by decide)]; exact kk
      · rw [if_pos (by decide), if_neg (by decide)]; exact kk
      · rw [if_pos (by decide), if_pos (by decide), if_neg (by decide)]; exact kk
      · rw [if_pos (by decide), if_pos (by decide), if_pos (by decide)]; exact kk
    | succ c ih =>
      intro k a x2 x3 x4 x5 hk hA he d7 d8 d9
      rw [List.range'_succ, List.foldl_cons] at he
      refine bk_X10_boughtOf_18 ?_
      rw [hF 41 (by decide), hL 3 (by decide), nI_ltI (by omega) (by omega)]
      refine ⟨fun q => by omega, fun _ => ?_⟩
      refine inn (k + 1) (by omega) (btK tx u lw a (k + 1)) (fun y2 y3 y4 y5 hy => ?_) (2 ^ pzG tx u) 0 a x2 x3 x4 x5 (Nat.zero_add _) hA (lev_k (by omega) a)
      intro d7 d8 d9
      exact ih (k + 1) _ y2 y3 y4 y5 (by omega) hy he
  refine bk_X10_boughtOf_18 ?_
  rw [hF 41 (by decide), hL 3 (by decide)]
  refine ⟨fun q => absurd q (nI_pos (by omega)), fun _ => ?_⟩
  refine inn 0 (by omega) (bt0 tx u) (fun y2 y3 y4 y5 hy => ?_) (2 ^ pzG tx u) 0 (2147483647, 0, 0, 0) _ _ _ _ (Nat.zero_add _) (Or.inl ⟨rfl, rfl, rfl, rfl, rfl⟩) lev_0
  intro d7 d8 d9
  exact out (lw 3) 0 _ y2 y3 y4 y5 (by omega) hy rfl
def bouA (tx : Nat → Nat) (u : Nat) (lw : Nat → Nat) (a : Int32) : Int32 := if 0 ≤ a ∧ a ≤ 3 then nI (bt4 (btA tx u lw) a.toNatClampNeg) else -2
theorem c_bought (hO : OKL lw) {mem : pm_M} (hI : IC mem tx u lw ow sf sl si lt) {a : Int32} (k : ∀ mem' : pm_M, Fr CT mem mem' → IC mem' tx u lw ow sf sl si lt → Q (some (.int (bouA tx u lw a))) mem') : pm_Ex ro m_X9_bought 0 [.ref 0, .int a] [] mem Q := by
  refine bk_X9_bought_0 ?_
  by_cases h0 : a = 0
  · subst h0
    refine bk_X9_bought_1_c0 (bk_X7_leastPaid_0 (sp_bought hO hI (fun m f1 f2 f3 => bk_X7_leastPaid_4 (bk_X9_bought_39 ?_))))
    rw [f3 0 (by decide)]; exact k m (f1.CT (by decide)) f2
  by_cases h1 : a = 1
  · subst h1
    refine bk_X9_bought_1_c1 (bk_X7_leastBills_0 (sp_bought hO hI (fun m f1 f2 f3 => bk_X7_leastBills_4 (bk_X9_bought_47 ?_))))
    rw [f3 1 (by decide)]; exact k m (f1.CT (by decide)) f2
  by_cases h2 : a = 2
  · subst h2
    refine bk_X9_bought_1_c2 (bk_X7_leastBits_0 (sp_bought hO hI (fun m f1 f2 f3 => bk_X7_leastBits_4 (bk_X9_bought_55 ?_))))
    rw [f3 2 (by decide)]; exact k m (f1.CT (by decide)) f2
  by_cases h3 : a = 3
  · subst h3
    refine bk_X9_bought_1_c3 (bk_X7_mostPaid_0 (sp_bought hO hI (fun m f1 f2 f3 => bk_X7_mostPaid_4 (bk_X9_bought_63 ?_))))
    rw [f3 3 (by decide)]; exact k m (f1.CT (by decide)) f2
  · refine bk_X9_bought_1_d h0 h1 h2 h3 ?_
    unfold bouA at k
    rw [if_neg] at k
    · exact k mem (Fr.rf _ _) hI
    · intro q
      obtain ⟨i, hi, rfl⟩ := rng' (n := 3) (by decide) q
      rcases (show i = 0 ∨ i = 1 ∨ i = 2 ∨ i = 3 by omega) with rfl | rfl | rfl | rfl
      · exact h0 rfl
      · exact h1 rfl
      · exact h2 rfl
      · exact h3 rfl
theorem ag_bought (hO : OK lw ow sf sl) (a : Int32) : AGi ro m_X9_bought [.ref 0, .int a] m_X10_bought [.ref 33, .int a] (tx, u, lw, ow, sf, sl, si, lt) := by
  refine ⟨bouA tx u lw a, (tx, u, lw, ow, sf, sl, si, lt), hO, fun m Q hI k => c_bought hO.1 hI k, fun m Q hI k => ?_⟩
  have hI : IR m tx u lw ow sf sl si lt := hI
  unfold bouA at k
  refine bk_X10_bought_0 (r_reads hI (fun m1 f1 f2 f3 => bk_X10_bought_4 ⟨fun h => ?_, fun h => ?_⟩))
  · rw [if_pos h] at k
    obtain ⟨w, hw, rfl⟩ := rng' (n := 3) (by decide) h
    rw [nI_clamp (by omega)] at k
    exact r_boughtOf hO.1 f2.2.1 f3 hw (fun m2 g1 => bk_X10_bought_22 (k m2 (f1.tr (g1.RT (by decide))) (f2.scr g1 (by decide))))
  · rw [if_neg h] at k; exact k m1 f1 f2
end BGA
