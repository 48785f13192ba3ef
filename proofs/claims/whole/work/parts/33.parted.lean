/-! least and most of sets that are parted -/
def IsMn (S : Nat → Prop) (v : Nat → Nat) (a : Nat) : Prop := (∀ r, S r → a ≤ v r) ∧ ∃ r, S r ∧ a = v r
def IsMx (S : Nat → Prop) (v : Nat → Nat) (a : Nat) : Prop := (∀ r, S r → v r ≤ a) ∧ ∃ r, S r ∧ a = v r
theorem IsMn.un {S S' : Nat → Prop} {v : Nat → Nat} {a b : Nat} (h : IsMn S v a) (h' : IsMn S' v b) (e : ∀ r, S r ↔ S' r) : a = b := by
  obtain ⟨h1, r, h2, h3⟩ := h
  obtain ⟨g1, q, g2, g3⟩ := h'
  have := h1 q ((e q).mpr g2)
  have := g1 r ((e r).mp h2)
  omega
theorem IsMx.un {S S' : Nat → Prop} {v : Nat → Nat} {a b : Nat} (h : IsMx S v a) (h' : IsMx S' v b) (e : ∀ r, S r ↔ S' r) : a = b := by
  obtain ⟨h1, r, h2, h3⟩ := h
  obtain ⟨g1, q, g2, g3⟩ := h'
  have := h1 q ((e q).mpr g2)
  have := g1 r ((e r).mp h2)
  omega
theorem fold_mn (f : Nat → Nat) : ∀ (l : List Nat) (a : Nat), l.foldl (fun a r => min a (f r)) a ≤ a ∧ (∀ r ∈ l, l.foldl (fun a r => min a (f r)) a ≤ f r) ∧ (l.foldl (fun a r => min a (f r)) a = a ∨ ∃ r, r ∈ l ∧ l.foldl (fun a r => min a (f r)) a = f r) := by
  intro l
  induction l with
  | nil => intro a; exact ⟨Nat.le_refl _, (fun r h => absurd h List.not_mem_nil), Or.inl rfl⟩
  | cons x l ih =>
    intro a
    obtain ⟨h1, h2, h3⟩ := ih (min a (f x))
    simp only [List.foldl_cons]
    refine ⟨by omega, fun r h => ?_, ?_⟩
    · rcases List.mem_cons.mp h with z | z
      · subst z; omega
      · exact h2 r z
    · rcases h3 with z | ⟨r, z, z'⟩
      · by_cases hc : a ≤ f x
        · exact Or.inl (by omega)
        · exact Or.inr ⟨x, List.mem_cons_self, by omega⟩
      · exact Or.inr ⟨r, List.mem_cons_of_mem _ z, z'⟩
theorem fold_mx (f : Nat → Nat) : ∀ (l : List Nat) (a : Nat), a ≤ l.foldl (fun a r => max a (f r)) a ∧ (∀ r ∈ l, f r ≤ l.foldl (fun a r => max a (f r)) a) ∧ (l.foldl (fun a r => max a (f r)) a = a ∨ ∃ r, r ∈ l ∧ l.foldl (fun a r => max a (f r)) a = f r) := by
  intro l
  induction l with
  | nil => intro a; exact ⟨Nat.le_refl _, (fun r h => absurd h List.not_mem_nil), Or.inl rfl⟩
  | cons x l ih =>
    intro a
    obtain ⟨h1, h2, h3⟩ := ih (max a (f x))
    simp only [List.foldl_cons]
    refine ⟨by omega, fun r h => ?_, ?_⟩
    · rcases List.mem_cons.mp h with z | z
      · subst z; omega
      · exact h2 r z
    · rcases h3 with z | ⟨r, z, z'⟩
      · by_cases hc : f x ≤ a
        · exact Or.inl (by omega)
        · exact Or.inr ⟨x, List.mem_cons_self, by omega⟩
      · exact Or.inr ⟨r, List.mem_cons_of_mem _ z, z'⟩
/-- s may be parted into k bills -/
def hasK' (k s : Nat) : Prop := (k = 0 ∧ s = 0) ∨ (0 < k ∧ s ≠ 0 ∧ k ≤ pc8 s)
def fre (s : Nat) : Nat := s &&& (s - 1)
/-- what k bills may hold beside the one with the lowest of s -/
def sbs (k s r : Nat) : Prop := s ≠ 0 ∧ r < 256 ∧ r &&& fre s = r ∧ hasK' k r
theorem fre_f {s : Nat} (hs : s < 256) (h0 : s ≠ 0) : fre s < s ∧ pc8 (fre s) + 1 = pc8 s := by
  have key : ∀ s, s < 256 → s ≠ 0 → fre s < s ∧ pc8 (fre s) + 1 = pc8 s := by decide +kernel
  exact key s hs h0
theorem pc8_z {s : Nat} (hs : s < 256) : pc8 s = 0 ↔ s = 0 := by
  have key : ∀ s, s < 256 → (pc8 s = 0 ↔ s = 0) := by decide +kernel
  exact key s hs
theorem sub_le {r F : Nat} (h : r &&& F = r) : r ≤ F := by rw [← h]; exact Nat.and_le_right
theorem nbq {a b : Nat} (h : a = b) : Nat.beq a b = true := by subst h; exact Nat.beq_refl a
theorem ttf {b : Bool} (h : b = true) (h' : b = false) : False := by rw [h] at h'; cases h'
def al (f : Nat → Bool) : Nat → Bool
  | 0 => true
  | n + 1 => bif f n then al f n else false
theorem al_s {f : Nat → Bool} : ∀ {n : Nat}, al f n = true → ∀ i, i < n → f i = true := by
  intro n
  induction n with
  | zero => intro _ i h; omega
  | succ n ih =>
    intro h i hi
    simp only [al] at h
    cases hf : f n with
    | false => rw [hf] at h; simp at h
    | true =>
      rw [hf] at h
      rcases Nat.lt_or_ge i n with z | z
      · exact ih h i z
      · have : i = n := by omega
        rw [this]; exact hf
/-- a check of all sets of all masks -/
theorem al_m {f : Nat → Nat → Bool} (h : al (fun s => al (fun o => bif Nat.beq (Nat.land o s) o then f s o else true) 256) 256 = true) {s o : Nat} (hs : s < 256) (ho : o &&& s = o) : f s o = true := by
  have ho' : o < 256 := Nat.lt_of_le_of_lt (sub_le ho) hs
  have h1 := al_s (al_s h s hs) o ho'
  have e : Nat.beq (Nat.land o s) o = true := nbq ho
  rw [e] at h1
  exact h1
theorem pc8_mono {r F : Nat} (hF : F < 256) (h : r &&& F = r) : pc8 r ≤ pc8 F := by
  have key : al (fun s => al (fun o => bif Nat.beq (Nat.land o s) o then Nat.ble (pc8 o) (pc8 s) else true) 256) 256 = true := by decide +kernel
  exact Nat.le_of_ble_eq_true (al_m (f := fun s o => Nat.ble (pc8 o) (pc8 s)) key hF h)
theorem sbs_lt {k s r : Nat} (hs : s < 256) (h : sbs k s r) : r < s := Nat.lt_of_le_of_lt (sub_le h.2.2.1) (fre_f hs h.1).1
theorem sbs_no {k s : Nat} (hs : s < 256) (h : ¬ hasK' (k + 1) s) : ∀ r, ¬ sbs k s r := by
  rintro r ⟨h0, h1, h2, h3⟩
  apply h
  have hf := fre_f hs h0
  have hm := pc8_mono (by omega) h2
  refine Or.inr ⟨by omega, h0, ?_⟩
  rcases h3 with ⟨z, -⟩ | ⟨-, -, z⟩
  · have : ¬ pc8 s = 0 := fun q => h0 ((pc8_z hs).mp q)
    omega
  · omega
theorem sbs_ex {k s : Nat} (hs : s < 256) (h : hasK' (k + 1) s) : ∃ r, sbs k s r := by
  rcases h with ⟨z, -⟩ | ⟨-, h0, h1⟩
  · omega
  have hf := fre_f hs h0
  rcases Nat.eq_zero_or_pos k with z | z
  · subst z
    exact ⟨0, h0, by decide, by simp, Or.inl ⟨rfl, rfl⟩⟩
  · refine ⟨fre s, h0, by omega, Nat.and_self _, Or.inr ⟨z, ?_, by omega⟩⟩
    intro q
    have := (pc8_z (s := fre s) (by omega)).mpr q
    omega
theorem mem_subs {k s r : Nat} : r ∈ subs k s ↔ r < 256 ∧ r ≠ 0 ∧ r &&& fre s = r ∧ k ≤ pc8 r := by
  unfold subs fre
  simp only [List.mem_filter, List.mem_range, Bool.and_eq_true, decide_eq_true_eq]
  constructor
  · rintro ⟨a, ⟨b, c⟩, d⟩; exact ⟨a, b, c, d⟩
  · rintro ⟨a, b, c, d⟩; exact ⟨a, ⟨b, c⟩, d⟩
section PTD
variable {tx : Nat → Nat} {u : Nat} {lw : Nat → Nat}
theorem cst_le (hO : OKL lw) (s : Nat) : cst tx u lw s ≤ 300000 := by
  have h1 := SMt_le tx u s
  have h2 := hO.2.2.2.1
  unfold cst PD
  rcases Nat.eq_zero_or_pos (SMt tx u s) with z | z
  · rw [z, paid_0]; omega
  · have h3 := paid_lt hO.1 (lw 1) z
    have h4 : lw 0 * SMt tx u s ≤ 36 * SMt tx u s := Nat.mul_le_mul_right _ hO.2.1
    omega
def mnv (tx : Nat → Nat) (u : Nat) (lw : Nat → Nat) (k s r : Nat) : Nat := cst tx u lw (s ^^^ r) + mnk tx u lw k r
def mxv (tx : Nat → Nat) (u : Nat) (lw : Nat → Nat) (k s r : Nat) : Nat := cst tx u lw (s ^^^ r) + mxk tx u lw k r
theorem mk_all (hO : OKL lw) : ∀ k, k ≤ 4 → ∀ s, s < 256 → hasK' k s → (mnk tx u lw k s ≤ k * 300000 ∧ mxk tx u lw k s ≤ k * 300000) ∧ (∀ j, k = j + 1 → IsMn (sbs j s) (mnv tx u lw j s) (mnk tx u lw k s) ∧ IsMx (sbs j s) (mxv tx u lw j s) (mxk tx u lw k s)) := by
  intro k
  induction k with
  | zero => intro _ s _ _; exact ⟨⟨by simp [mnk], by simp [mxk]⟩, fun j h => by omega⟩
  | succ k ih =>
    intro hk s hs hh
    rcases Nat.eq_zero_or_pos k with z | z
    · subst z
      have h0 : s ≠ 0 := by rcases hh with ⟨a, -⟩ | ⟨-, a, -⟩; omega; exact a
      have hc := cst_le (tx := tx) (u := u) hO s
      refine ⟨⟨by simp only [mnk]; omega, by simp only [mxk]; omega⟩, fun j hj => ?_⟩
      have : j = 0 := by omega
      subst this
      have hS : ∀ r, sbs 0 s r → r = 0 := fun r h => by
        rcases h.2.2.2 with ⟨-, a⟩ | ⟨a, -⟩
        · exact a
        · omega
      have h00 : sbs 0 s 0 := ⟨h0, by decide, by simp, Or.inl ⟨rfl, rfl⟩⟩
      have e1 : mnv tx u lw 0 s 0 = mnk tx u lw 1 s := by simp [mnv, mnk]
      have e2 : mxv tx u lw 0 s 0 = mxk tx u lw 1 s := by simp [mxv, mxk]
      exact ⟨⟨fun r h => by rw [hS r h, e1]; exact Nat.le_refl _, 0, h00, e1.symm⟩, ⟨fun r h => by rw [hS r h, e2]; exact Nat.le_refl _, 0, h00, e2.symm⟩⟩
    · obtain ⟨k', rfl⟩ : ∃ k', k = k' + 1 := ⟨k - 1, by omega⟩
      have hiff : ∀ r, r ∈ subs (k' + 1) s ↔ sbs (k' + 1) s r := by
        have h0 : s ≠ 0 := by rcases hh with ⟨a, -⟩ | ⟨-, a, -⟩; omega; exact a
        intro r
        rw [mem_subs]
        constructor
        · rintro ⟨a, b, c, d⟩; exact ⟨h0, a, c, Or.inr ⟨by omega, b, d⟩⟩
        · rintro ⟨-, a, c, d | d⟩
          · omega
          · exact ⟨a, d.2.1, c, d.2.2⟩
      have bd : ∀ r, sbs (k' + 1) s r → mnv tx u lw (k' + 1) s r ≤ (k' + 1 + 1) * 300000 ∧ mxv tx u lw (k' + 1) s r ≤ (k' + 1 + 1) * 300000 := by
        intro r hr
        have h1 := (ih (by omega) r hr.2.1 hr.2.2.2).1
        have hc := cst_le (tx := tx) (u := u) hO (s ^^^ r)
        unfold mnv mxv
        omega
      obtain ⟨r0, hr0⟩ := sbs_ex hs hh
      have m1 : IsMn (sbs (k' + 1) s) (mnv tx u lw (k' + 1) s) (mnk tx u lw (k' + 1 + 1) s) := by
        obtain ⟨f1, f2, f3⟩ := fold_mn (mnv tx u lw (k' + 1) s) (subs (k' + 1) s) 2147483647
        have e : mnk tx u lw (k' + 1 + 1) s = (subs (k' + 1) s).foldl (fun a r => min a (mnv tx u lw (k' + 1) s r)) 2147483647 := rfl
        rw [← e] at f1 f2 f3
        refine ⟨fun r hr => f2 r ((hiff r).mpr hr), ?_⟩
        rcases f3 with z | ⟨r, z, z'⟩
        · have h1 := f2 r0 ((hiff r0).mpr hr0)
          have h2 := (bd r0 hr0).1
          omega
        · exact ⟨r, (hiff r).mp z, z'⟩
      have m2 : IsMx (sbs (k' + 1) s) (mxv tx u lw (k' + 1) s) (mxk tx u lw (k' + 1 + 1) s) := by
        obtain ⟨f1, f2, f3⟩ := fold_mx (mxv tx u lw (k' + 1) s) (subs (k' + 1) s) 0
        have e : mxk tx u lw (k' + 1 + 1) s = (subs (k' + 1) s).foldl (fun a r => max a (mxv tx u lw (k' + 1) s r)) 0 := rfl
        rw [← e] at f1 f2 f3
        refine ⟨fun r hr => f2 r ((hiff r).mpr hr), ?_⟩
        rcases f3 with z | ⟨r, z, z'⟩
        · exact ⟨r0, hr0, by have := f2 r0 ((hiff r0).mpr hr0); omega⟩
        · exact ⟨r, (hiff r).mp z, z'⟩
      refine ⟨⟨?_, ?_⟩, fun j hj => ?_⟩
      · obtain ⟨r, a, b⟩ := m1.2
        rw [b]; exact (bd r a).1
      · obtain ⟨r, a, b⟩ := m2.2
        rw [b]; exact (bd r a).2
      · have : j = k' + 1 := by omega
        subst this
        exact ⟨m1, m2⟩
theorem mv_le (hO : OKL lw) {k s r : Nat} (hk : k ≤ 4) (h : sbs k s r) : mnv tx u lw k s r ≤ 1500000 ∧ mxv tx u lw k s r ≤ 1500000 := by
  have h1 := (mk_all (tx := tx) (u := u) hO k hk r h.2.1 h.2.2.2).1
  have hc := cst_le (tx := tx) (u := u) hO (s ^^^ r)
  have : k * 300000 ≤ 4 * 300000 := Nat.mul_le_mul_right _ hk
  unfold mnv mxv
  omega
end PTD
/-- while sets are looked at: nothing yet, or the least and the most of them -/
def AC (S : Nat → Prop) (v w : Nat → Nat) (e0 e1 lo hi : Int32) : Prop := ((∀ r, ¬ S r) ∧ lo = e0 ∧ hi = e1) ∨ ∃ a b, IsMn S v a ∧ IsMx S w b ∧ lo = nI a ∧ hi = nI b
theorem AC.cg {S S' : Nat → Prop} {v w : Nat → Nat} {e0 e1 lo hi : Int32} (h : AC S v w e0 e1 lo hi) (e : ∀ r, S r ↔ S' r) : AC S' v w e0 e1 lo hi := by
  have : S = S' := funext (fun r => propext (e r))
  rw [← this]; exact h
/-- one more set -/
theorem AC.st {S : Nat → Prop} {v w : Nat → Nat} {e0 e1 lo hi lo' hi' : Int32} (h : AC S v w e0 e1 lo hi) (hv : ∀ r, S r → v r < 2 ^ 31 ∧ w r < 2 ^ 31) {q : Nat} (hq : v q < 2 ^ 31 ∧ w q < 2 ^ 31) (l0 : lo = e0 → (∀ r, ¬ S r) → lo' = nI (v q)) (l1 : hi = e1 → (∀ r, ¬ S r) → hi' = nI (w q)) (l2 : ∀ a, a < 2 ^ 31 → lo = nI a → lo' = nI (min a (v q))) (l3 : ∀ b, b < 2 ^ 31 → hi = nI b → hi' = nI (max b (w q))) : AC (fun r => S r ∨ r = q) v w e0 e1 lo' hi' := by
  rcases h with ⟨h1, h2, h3⟩ | ⟨a, b, ⟨a1, ra, a2, a3⟩, ⟨b1, rb, b2, b3⟩, h3, h4⟩
  · refine Or.inr ⟨v q, w q, ⟨fun r hr => ?_, q, Or.inr rfl, rfl⟩, ⟨fun r hr => ?_, q, Or.inr rfl, rfl⟩, l0 h2 h1, l1 h3 h1⟩
    · rcases hr with z | z
      · exact absurd z (h1 r)
      · rw [z]; exact Nat.le_refl _
    · rcases hr with z | z
      · exact absurd z (h1 r)
      · rw [z]; exact Nat.le_refl _
  · refine Or.inr ⟨min a (v q), max b (w q), ⟨fun r hr => ?_, ?_⟩, ⟨fun r hr => ?_, ?_⟩, l2 a (by have := (hv ra a2).1; omega) h3, l3 b (by have := (hv rb b2).2; omega) h4⟩
    · rcases hr with z | z
      · have := a1 r z; omega
      · rw [z]; omega
    · by_cases hc : a ≤ v q
      · exact ⟨ra, Or.inl a2, by omega⟩
      · exact ⟨q, Or.inr rfl, by omega⟩
    · rcases hr with z | z
      · have := b1 r z; omega
      · rw [z]; omega
    · by_cases hc : w q ≤ b
      · exact ⟨rb, Or.inl b2, by omega⟩
      · exact ⟨q, Or.inr rfl, by omega⟩
/-- from n down: the sets that a loop meets are those of the mask F -/
def ckm (F : Nat) : Nat → Nat → Bool
  | 0, r => decide (r = 0)
  | n + 1, r => bif decide (n + 1 = r) then decide (r &&& F = r) && ckm F n ((r - 1) &&& F) else (!(decide ((n + 1) &&& F = n + 1)) && ckm F n r)
theorem ckm_0 {F : Nat} (hF : F < 256) : ckm F F F = true := by
  have key : ∀ F, F < 256 → ckm F F F = true := by decide +kernel
  exact key F hF
theorem nI_and (a b : Nat) : nI a &&& nI b = nI (a &&& b) := by
  apply Int32.toBitVec_inj.mp
  rw [Int32.toBitVec_and]
  show BitVec.ofNat 32 a &&& BitVec.ofNat 32 b = BitVec.ofNat 32 (a &&& b)
  rw [BitVec.ofNat_and]
theorem nI_xor (a b : Nat) : nI a ^^^ nI b = nI (a ^^^ b) := by
  apply Int32.toBitVec_inj.mp
  rw [Int32.toBitVec_xor]
  show BitVec.ofNat 32 a ^^^ BitVec.ofNat 32 b = BitVec.ofNat 32 (a ^^^ b)
  rw [BitVec.ofNat_xor]
theorem m1_nI : (-1 : Int32) = nI 4294967295 := by decide
theorem mskR {s o : Nat} (hs : s < 256) (ho : o &&& s = o) : nI s &&& (nI o ^^^ (-1)) = nI (s ^^^ o) := by
  have key : al (fun s => al (fun o => bif Nat.beq (Nat.land o s) o then Nat.beq (Nat.land s (Nat.xor o 4294967295)) (Nat.xor s o) else true) 256) 256 = true := by decide +kernel
  have h := Nat.eq_of_beq_eq_true (al_m (f := fun s o => Nat.beq (Nat.land s (Nat.xor o 4294967295)) (Nat.xor s o)) key hs ho)
  rw [m1_nI, nI_xor, nI_and]
  exact congrArg nI h
theorem lowB {s : Nat} (hs : s < 256) : nI s &&& (-nI s) = nI (s ^^^ fre s) := by
  have key : ∀ s, s < 256 → nI s &&& (-nI s) = nI (s ^^^ fre s) := by decide +kernel
  exact key s hs
theorem mskF {s o : Nat} (hs : s < 256) (h0 : s ≠ 0) (ho : o &&& s = o) : ((nI o &&& (nI s &&& (-nI s))) = 0 ↔ ¬ ((s ^^^ o) &&& fre s = s ^^^ o)) ∧ s ^^^ o < 256 := by
  have key : al (fun s => al (fun o => bif Nat.beq (Nat.land o s) o then (bif Nat.beq s 0 then true else (bif Nat.beq (Nat.land o (Nat.xor s (Nat.land s (s - 1)))) 0 then !(Nat.beq (Nat.land (Nat.xor s o) (Nat.land s (s - 1))) (Nat.xor s o)) else Nat.beq (Nat.land (Nat.xor s o) (Nat.land s (s - 1))) (Nat.xor s o)) && Nat.ble (Nat.xor s o) 255) else true) 256) 256 = true := by decide +kernel
  have h := al_m (f := fun s o => (bif Nat.beq s 0 then true else (bif Nat.beq (Nat.land o (Nat.xor s (Nat.land s (s - 1)))) 0 then !(Nat.beq (Nat.land (Nat.xor s o) (Nat.land s (s - 1))) (Nat.xor s o)) else Nat.beq (Nat.land (Nat.xor s o) (Nat.land s (s - 1))) (Nat.xor s o)) && Nat.ble (Nat.xor s o) 255)) key hs ho
  have ho' : o < 256 := Nat.lt_of_le_of_lt (sub_le ho) hs
  have e0 : Nat.beq s 0 = false := by
    cases hb : Nat.beq s 0 with
    | false => rfl
    | true => exact absurd (Nat.eq_of_beq_eq_true hb) h0
  rw [e0] at h
  simp only [cond_false, Bool.and_eq_true] at h
  refine ⟨?_, by have := Nat.le_of_ble_eq_true h.2; exact Nat.lt_of_le_of_lt this (by decide)⟩
  rw [lowB hs, nI_and, nI_eq0 (Nat.lt_of_le_of_lt Nat.and_le_left (by omega))]
  have h1 := h.1
  cases hb : Nat.beq (Nat.land o (Nat.xor s (Nat.land s (s - 1)))) 0 with
  | true =>
    rw [hb] at h1
    simp only [cond_true, Bool.not_eq_true'] at h1
    exact ⟨fun _ q => ttf (nbq q) h1, fun _ => Nat.eq_of_beq_eq_true hb⟩
  | false =>
    rw [hb] at h1
    simp only [cond_false] at h1
    refine ⟨fun q => ?_, fun q => absurd (Nat.eq_of_beq_eq_true h1) q⟩
    exact (ttf (nbq q) hb).elim
theorem mskX {s r : Nat} (hs : s < 256) (hr : r &&& fre s = r) : (s ^^^ r) &&& s = s ^^^ r ∧ (s ≠ 0 → 0 < s ^^^ r) ∧ s ^^^ r < 256 := by
  have hf : fre s &&& s = fre s := by unfold fre; rw [Nat.and_comm (s &&& (s - 1)), ← Nat.and_assoc, Nat.and_self]
  have hr' : r &&& s = r := by
    calc r &&& s = (r &&& fre s) &&& s := by rw [hr]
      _ = r &&& (fre s &&& s) := Nat.and_assoc _ _ _
      _ = r := by rw [hf, hr]
  have key : al (fun s => al (fun o => bif Nat.beq (Nat.land o s) o then (Nat.beq (Nat.land (Nat.xor s o) s) (Nat.xor s o) && Nat.ble (Nat.xor s o) 255) else true) 256) 256 = true := by decide +kernel
  have h := al_m (f := fun s o => (Nat.beq (Nat.land (Nat.xor s o) s) (Nat.xor s o) && Nat.ble (Nat.xor s o) 255)) key hs hr'
  simp only [Bool.and_eq_true] at h
  refine ⟨Nat.eq_of_beq_eq_true h.1, fun h0 => ?_, Nat.lt_of_le_of_lt (Nat.le_of_ble_eq_true h.2) (by decide)⟩
  rcases Nat.eq_zero_or_pos (s ^^^ r) with z | z
  · have hle := sub_le hr
    have hlt := (fre_f hs h0).1
    have : s = r := by
      have e := congrArg (fun x => x ^^^ r) z
      simp only [Nat.xor_assoc, Nat.xor_self, Nat.xor_zero, Nat.zero_xor] at e
      exact e
    omega
  · exact z
theorem mskW {s w : Nat} (hs : s < 256) (hw : w < 256) : ((nI w &&& (nI s ^^^ (-1))) = 0 ↔ s &&& w = w) ∧ (nI s &&& nI w = nI w ↔ s &&& w = w) := by
  have key : al (fun s => al (fun w => bif Nat.beq (Nat.land w (Nat.xor s 4294967295)) 0 then Nat.beq (Nat.land s w) w else !(Nat.beq (Nat.land s w) w)) 256) 256 = true := by decide +kernel
  have h := al_s (al_s key s hs) w hw
  refine ⟨?_, ?_⟩
  · rw [m1_nI, nI_xor, nI_and, nI_eq0 (Nat.lt_of_le_of_lt Nat.and_le_left (by omega))]
    cases hb : Nat.beq (Nat.land w (Nat.xor s 4294967295)) 0 with
    | true =>
      rw [hb] at h
      exact ⟨fun _ => Nat.eq_of_beq_eq_true h, fun _ => Nat.eq_of_beq_eq_true hb⟩
    | false =>
      rw [hb] at h
      simp only [cond_false, Bool.not_eq_true'] at h
      refine ⟨fun q => ?_, fun q => ?_⟩
      · exact (ttf (nbq q) hb).elim
      · exact (ttf (nbq q) h).elim
  · rw [nI_and, nI_eq (Nat.lt_of_le_of_lt Nat.and_le_left (by omega)) (by omega)]
