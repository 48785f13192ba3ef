/-! THE START: what the constructors leave -/
def mem0 : pm_M := fun t => match t with
  | 2 => upd (upd (upd (upd (fun _ => 0) 0 10) 1 0) 2 0) 3 1
  | 3 => fun k => match k with
    | 5 => -1
    | _ => 0
  | 15 => fun k => match k with
    | 3 => -1
    | _ => 0
  | 24 => fun k => match k with
    | 1 => -1
    | _ => 0
  | 26 => fun k => match k with
    | 1 => -1
    | _ => 0
  | 28 => fun k => match k with
    | 1 => -1
    | _ => 0
  | 30 => fun k => match k with
    | 1 => -1
    | _ => 0
  | 34 => upd (upd (upd (upd (fun _ => 0) 0 (-1)) 1 (-1)) 2 (-1)) 3 (-1)
  | 41 => upd (upd (fun _ => 0) 0 10) 3 1
  | _ => fun _ => 0
def lw0 : Nat → Nat := fun j => match j with
  | 0 => 10
  | 3 => 1
  | _ => 0
def sg0 : SG := (fun _ => 0, 0, lw0, fun _ => 0, fun _ => -1, fun _ => 0, fun _ _ => 0, 0)
theorem ok0 : OKs sg0 := ⟨by unfold OKL; decide, fun j _ => (by decide : (0 : Nat) < 4), fun s _ => ⟨Or.inl rfl, Nat.zero_le _, fun _ => rfl⟩⟩
theorem ic0 : ICs mem0 sg0 := by
  refine ⟨⟨by decide, rfl, fun j hj => absurd hj (Nat.not_lt_zero _), fun j hj => absurd hj (Nat.not_lt_zero _)⟩, ⟨rfl, rfl, rfl, fun j hj => absurd (show j < 0 from hj) (Nat.not_lt_zero _)⟩, fun j hj => ?_, fun j hj => rfl, fun s hs => ?_, rfl, ⟨rfl, Or.inl rfl, Or.inl rfl⟩, Or.inl rfl⟩
  · rcases (show j = 0 ∨ j = 1 ∨ j = 2 ∨ j = 3 by omega) with rfl | rfl | rfl | rfl <;> rfl
  · rcases (show s = 0 ∨ s = 1 ∨ s = 2 ∨ s = 3 by omega) with rfl | rfl | rfl | rfl <;> exact ⟨rfl, rfl, fun j hj => absurd hj (Nat.not_lt_zero _)⟩
theorem ir0 : IRs mem0 sg0 := by
  refine ⟨⟨by decide, rfl, fun j hj => absurd hj (Nat.not_lt_zero _), fun j hj => absurd hj (Nat.not_lt_zero _)⟩, fun j hj => ?_, fun j hj => rfl, fun s hs => ?_, rfl⟩
  · rcases (show j = 0 ∨ j = 1 ∨ j = 2 ∨ j = 3 by omega) with rfl | rfl | rfl | rfl <;> rfl
  · rcases (show s = 0 ∨ s = 1 ∨ s = 2 ∨ s = 3 by omega) with rfl | rfl | rfl | rfl <;> exact ⟨rfl, fun _ => rfl, fun j hj => absurd hj (Nat.not_lt_zero _)⟩
theorem law_pure {ro : pm_RO} (h49 : ro 49 = some (4, c49)) (h50 : ro 50 = some (4, c50)) (h51 : ro 51 = some (4, c51)) {L : Nat} {rf : Nat → Int32} (hr : ro 52 = some (L, rf)) (hL : L ≤ 3072) : ∃ (n : Nat) (mem' : pm_M), pm_run ro n m_L_law 16 [.ref 52, .ref 0, .ref 33, .null] [] mem0 = some (some (.int 1), mem') := by
  obtain ⟨n, v, m, h1, h2⟩ := bk_L_law_16 (law_loop (Q := fun v _ => v = some (.int 1)) h49 h50 h51 hr hL (fun _ => rfl) L 0 sg0 mem0 (by omega) (by decide) ok0 ic0 ir0)
  subst h2
  exact ⟨n, m, h1⟩
def ad52 (l : List Nat) : Nat → Nat := fun t => l.getD t 0
def ro52 (L : Nat) (xs : Nat → Int32) : pm_RO := fun t => if t = 49 then some (4, c49) else if t = 50 then some (4, c50) else if t = 51 then some (4, c51) else if t = 52 then some (L, xs) else none
set_option maxHeartbeats 4000000 in
set_option maxRecDepth 100000 in
theorem ws0 (cI cS : ClassId) (b0 b1 b2 b3 b4 b5 b6 b7 b8 b9 b10 b11 b12 b13 b14 b15 b16 b17 b18 b19 b20 b21 b22 b23 b24 b25 b26 b27 b28 b29 b30 b31 b32 b33 b34 b35 b36 b37 b38 b39 b40 b41 b42 b43 b44 b45 b46 b47 b48 t49 t50 t51 b : Nat) : pm_ws (ad52 [b0, b1, b2, b3, b4, b5, b6, b7, b8, b9, b10, b11, b12, b13, b14, b15, b16, b17, b18, b19, b20, b21, b22, b23, b24, b25, b26, b27, b28, b29, b30, b31, b32, b33, b34, b35, b36, b37, b38, b39, b40, b41, b42, b43, b44, b45, b46, b47, b48, t49, t50, t51, b]) cI cS mem0 = [(b0, .inr (9, [.ref b1, .ref b3, .ref b6, .ref b11, .ref b13, .ref b15, .ref b17, .ref b20, .ref b23, .ref b32, .int 0])), (b1, .inr (2, [.ref b2])), (b2, .inl (cI, 4, .inl (upd (upd (upd (upd (fun _ => 0) 0 10) 1 0) 2 0) 3 1))), (b3, .inr (1, [.ref b4, .ref b5, .int 0, .int 0, .int 0, .int (-1)])), (b4, .inl (cI, 50, .inl (fun _ => 0))), (b5, .inl (cI, 8, .inl (fun _ => 0))), (b6, .inr (7, [.ref b1, .ref b3, .ref b7, .ref b8, .ref b9, .ref b10, .int 0, .int 0, .int 0, .int 0, .int 0, .int 0])), (b7, .inl (cI, 256, .inl (fun _ => 0))), (b8, .inl (cI, 256, .inl (fun _ => 0))), (b9, .inl (cI, 256, .inl (fun _ => 0))), (b10, .inl (cI, 256, .inl (fun _ => 0))), (b11, .inr (4, [.ref b1, .ref b3, .ref b12])), (b12, .inl (cI, 8, .inl (fun _ => 0))), (b13, .inr (5, [.ref b1, .ref b14, .int 0])), (b14, .inl (cI, 201, .inl (fun _ => 0))), (b15, .inr (0, [.ref b1, .ref b16, .int 0, .int (-1)])), (b16, .inl (cI, 4, .inl (fun _ => 0))), (b17, .inr (3, [.ref b1, .ref b18, .ref b19])), (b18, .inl (cI, 121, .inl (fun _ => 0))), (b19, .inl (cI, 121, .inl (fun _ => 0))), (b20, .inr (8, [.ref b1, .ref b21, .ref b22])), (b21, .inl (cI, 209, .inl (fun _ => 0))), (b22, .inl (cI, 209, .inl (fun _ => 0))), (b23, .inl (cS, 4, .inr (.inr (.inr (.inr (fun j => (([24, 26, 28, 30] : List Nat)[j]?).map (ad52 [b0, b1, b2, b3, b4, b5, b6, b7, b8, b9, b10, b11, b12, b13, b14, b15, b16, b17, b18, b19, b20, b21, b22, b23, b24, b25, b26, b27, b28, b29, b30, b31, b32, b33, b34, b35, b36, b37, b38, b39, b40, b41, b42, b43, b44, b45, b46, b47, b48, t49, t50, t51, b]))))))), (b24, .inr (6, [.ref b25, .int (-1), .int 0])), (b25, .inl (cI, 60, .inl (fun _ => 0))), (b26, .inr (6, [.ref b27, .int (-1), .int 0])), (b27, .inl (cI, 60, .inl (fun _ => 0))), (b28, .inr (6, [.ref b29, .int (-1), .int 0])), (b29, .inl (cI, 60, .inl (fun _ => 0))), (b30, .inr (6, [.ref b31, .int (-1), .int 0])), (b31, .inl (cI, 60, .inl (fun _ => 0))), (b32, .inl (cI, 31, .inl (fun _ => 0))), (b33, .inr (10, [.ref b34, .ref b35, .ref b36, .ref b37, .int 0, .ref b38, .int 0, .int 0, .int 0, .ref b39, .int 0, .ref b40, .ref b41, .ref b42, .ref b43, .ref b44, .ref b45, .ref b46, .ref b47, .ref b48])), (b34, .inl (cI, 4, .inl (upd (upd (upd (upd (fun _ => 0) 0 (-1)) 1 (-1)) 2 (-1)) 3 (-1)))), (b35, .inl (cI, 4, .inl (fun _ => 0))), (b36, .inl (cI, 240, .inl (fun _ => 0))), (b37, .inl (cI, 60, .inl (fun _ => 0))), (b38, .inl (cI, 50, .inl (fun _ => 0))), (b39, .inl (cI, 8, .inl (fun _ => 0))), (b40, .inl (cI, 8, .inl (fun _ => 0))), (b41, .inl (cI, 4, .inl (upd (upd (fun _ => 0) 0 10) 3 1))), (b42, .inl (cI, 1280, .inl (fun _ => 0))), (b43, .inl (cI, 1280, .inl (fun _ => 0))), (b44, .inl (cI, 256, .inl (fun _ => 0))), (b45, .inl (cI, 201, .inl (fun _ => 0))), (b46, .inl (cI, 121, .inl (fun _ => 0))), (b47, .inl (cI, 121, .inl (fun _ => 0))), (b48, .inl (cI, 420, .inl (fun _ => 0)))] := by
  simp only [pm_ws, pm_lay, List.mapIdx_cons, List.mapIdx_nil]
  rfl
theorem sh4 (b0 b1 b2 b3 b4 b5 b6 b7 b8 b9 b10 b11 b12 b13 b14 b15 b16 b17 b18 b19 b20 b21 b22 b23 b24 b25 b26 b27 b28 b29 b30 b31 b32 b33 b34 b35 b36 b37 b38 b39 b40 b41 b42 b43 b44 b45 b46 b47 b48 t49 t50 t51 b : Nat) : va_up (va_up (va_up (va_up (fun _ => none) 0 (some b24)) 1 (some b26)) 2 (some b28)) 3 (some b30) = fun j => (([24, 26, 28, 30] : List Nat)[j]?).map (ad52 [b0, b1, b2, b3, b4, b5, b6, b7, b8, b9, b10, b11, b12, b13, b14, b15, b16, b17, b18, b19, b20, b21, b22, b23, b24, b25, b26, b27, b28, b29, b30, b31, b32, b33, b34, b35, b36, b37, b38, b39, b40, b41, b42, b43, b44, b45, b46, b47, b48, t49, t50, t51, b]) := by
  funext j
  match j with
  | 0 => rfl
  | 1 => rfl
  | 2 => rfl
  | 3 => rfl
  | k + 4 => simp [va_up]
