set_option maxRecDepth 100000 in
theorem pm_ok_0 : (List.range' 0 13).all pm_okm = true := by decide +kernel
set_option maxRecDepth 100000 in
theorem pm_ok_13 : (List.range' 13 7).all pm_okm = true := by decide +kernel
set_option maxRecDepth 100000 in
theorem pm_ok_20 : (List.range' 20 6).all pm_okm = true := by decide +kernel
set_option maxRecDepth 100000 in
theorem pm_ok_26 : (List.range' 26 13).all pm_okm = true := by decide +kernel
set_option maxRecDepth 100000 in
theorem pm_ok_39 : (List.range' 39 14).all pm_okm = true := by decide +kernel
set_option maxRecDepth 100000 in
theorem pm_ok_53 : (List.range' 53 4).all pm_okm = true := by decide +kernel
set_option maxRecDepth 100000 in
theorem pm_ok_57 : (List.range' 57 6).all pm_okm = true := by decide +kernel
set_option maxRecDepth 100000 in
theorem pm_ok_63 : (List.range' 63 7).all pm_okm = true := by decide +kernel
set_option maxRecDepth 100000 in
theorem pm_ok_70 : (List.range' 70 8).all pm_okm = true := by decide +kernel
set_option maxRecDepth 100000 in
theorem pm_ok_78 : (List.range' 78 5).all pm_okm = true := by decide +kernel
set_option maxRecDepth 100000 in
theorem pm_ok_83 : (List.range' 83 5).all pm_okm = true := by decide +kernel
set_option maxRecDepth 100000 in
theorem pm_ok_88 : (List.range' 88 2).all pm_okm = true := by decide +kernel
set_option maxRecDepth 100000 in
theorem pm_ok_90 : (List.range' 90 2).all pm_okm = true := by decide +kernel
set_option maxRecDepth 100000 in
theorem pm_ok_92 : (List.range' 92 17).all pm_okm = true := by decide +kernel
set_option maxRecDepth 100000 in
theorem pm_ok_109 : (List.range' 109 4).all pm_okm = true := by decide +kernel
set_option maxRecDepth 100000 in
theorem pm_ok_113 : (List.range' 113 5).all pm_okm = true := by decide +kernel
set_option maxRecDepth 100000 in
theorem pm_ok_118 : (List.range' 118 6).all pm_okm = true := by decide +kernel
set_option maxRecDepth 100000 in
theorem pm_ok_124 : (List.range' 124 8).all pm_okm = true := by decide +kernel
set_option maxRecDepth 100000 in
theorem pm_ok_132 : (List.range' 132 3).all pm_okm = true := by decide +kernel
set_option maxRecDepth 100000 in
theorem pm_ok_135 : (List.range' 135 6).all pm_okm = true := by decide +kernel
set_option maxRecDepth 100000 in
theorem pm_ok_141 : (List.range' 141 6).all pm_okm = true := by decide +kernel
set_option maxRecDepth 100000 in
theorem pm_ok_147 : (List.range' 147 3).all pm_okm = true := by decide +kernel
set_option maxRecDepth 100000 in
theorem pm_ok_150 : (List.range' 150 6).all pm_okm = true := by decide +kernel
set_option maxRecDepth 100000 in
theorem pm_ok_156 : (List.range' 156 3).all pm_okm = true := by decide +kernel
set_option maxRecDepth 100000 in
theorem pm_ok_159 : (List.range' 159 3).all pm_okm = true := by decide +kernel
set_option maxRecDepth 100000 in
theorem pm_ok_162 : (List.range' 162 1).all pm_okm = true := by decide +kernel
set_option maxRecDepth 100000 in
theorem pm_ok_163 : (List.range' 163 2).all pm_okm = true := by decide +kernel
theorem pm_ok_all {y : Nat} (h : y < 165) : pm_okm y = true := by
  have key : ∀ {s n : Nat}, (List.range' s n).all pm_okm = true → s ≤ y → y < s + n → pm_okm y = true := fun h1 h2 h3 => List.all_eq_true.mp h1 y (List.mem_range'_1.mpr ⟨h2, h3⟩)
  by_cases h_0 : y < 13
  · exact key pm_ok_0 (by omega) (by omega)
  by_cases h_13 : y < 20
  · exact key pm_ok_13 (by omega) (by omega)
  by_cases h_20 : y < 26
  · exact key pm_ok_20 (by omega) (by omega)
  by_cases h_26 : y < 39
  · exact key pm_ok_26 (by omega) (by omega)
  by_cases h_39 : y < 53
  · exact key pm_ok_39 (by omega) (by omega)
  by_cases h_53 : y < 57
  · exact key pm_ok_53 (by omega) (by omega)
  by_cases h_57 : y < 63
  · exact key pm_ok_57 (by omega) (by omega)
  by_cases h_63 : y < 70
  · exact key pm_ok_63 (by omega) (by omega)
  by_cases h_70 : y < 78
  · exact key pm_ok_70 (by omega) (by omega)
  by_cases h_78 : y < 83
  · exact key pm_ok_78 (by omega) (by omega)
  by_cases h_83 : y < 88
  · exact key pm_ok_83 (by omega) (by omega)
  by_cases h_88 : y < 90
  · exact key pm_ok_88 (by omega) (by omega)
  by_cases h_90 : y < 92
  · exact key pm_ok_90 (by omega) (by omega)
  by_cases h_92 : y < 109
  · exact key pm_ok_92 (by omega) (by omega)
  by_cases h_109 : y < 113
  · exact key pm_ok_109 (by omega) (by omega)
  by_cases h_113 : y < 118
  · exact key pm_ok_113 (by omega) (by omega)
  by_cases h_118 : y < 124
  · exact key pm_ok_118 (by omega) (by omega)
  by_cases h_124 : y < 132
  · exact key pm_ok_124 (by omega) (by omega)
  by_cases h_132 : y < 135
  · exact key pm_ok_132 (by omega) (by omega)
  by_cases h_135 : y < 141
  · exact key pm_ok_135 (by omega) (by omega)
  by_cases h_141 : y < 147
  · exact key pm_ok_141 (by omega) (by omega)
  by_cases h_147 : y < 150
  · exact key pm_ok_147 (by omega) (by omega)
  by_cases h_150 : y < 156
  · exact key pm_ok_150 (by omega) (by omega)
  by_cases h_156 : y < 159
  · exact key pm_ok_156 (by omega) (by omega)
  by_cases h_159 : y < 162
  · exact key pm_ok_159 (by omega) (by omega)
  by_cases h_162 : y < 163
  · exact key pm_ok_162 (by omega) (by omega)
  by_cases h_163 : y < 165
  · exact key pm_ok_163 (by omega) (by omega)
  omega
def pm_S_law : pm_S := (yL_law, cL_law, 4, (some .boolean), 7, 171, 1, true, 0, 45, 0, 0)
set_option maxRecDepth 100000 in
theorem pm_okl_0 : ((cd_L_law.drop 0).take 45).all (pm_okr pm_S_law) = true := by decide +kernel
set_option maxRecDepth 100000 in
theorem pm_okl_45 : ((cd_L_law.drop 45).take 45).all (pm_okr pm_S_law) = true := by decide +kernel
set_option maxRecDepth 100000 in
theorem pm_okl_90 : ((cd_L_law.drop 90).take 45).all (pm_okr pm_S_law) = true := by decide +kernel
set_option maxRecDepth 100000 in
theorem pm_okl_135 : ((cd_L_law.drop 135).take 45).all (pm_okr pm_S_law) = true := by decide +kernel
set_option maxRecDepth 100000 in
theorem pm_okl_180 : ((cd_L_law.drop 180).take 45).all (pm_okr pm_S_law) = true := by decide +kernel
set_option maxRecDepth 100000 in
theorem pm_okl_225 : ((cd_L_law.drop 225).take 45).all (pm_okr pm_S_law) = true := by decide +kernel
set_option maxRecDepth 100000 in
theorem pm_okl_270 : ((cd_L_law.drop 270).take 45).all (pm_okr pm_S_law) = true := by decide +kernel
set_option maxRecDepth 100000 in
theorem pm_okl_315 : ((cd_L_law.drop 315).take 45).all (pm_okr pm_S_law) = true := by decide +kernel
set_option maxRecDepth 100000 in
theorem pm_okl_360 : ((cd_L_law.drop 360).take 45).all (pm_okr pm_S_law) = true := by decide +kernel
set_option maxRecDepth 100000 in
theorem pm_okl_405 : ((cd_L_law.drop 405).take 45).all (pm_okr pm_S_law) = true := by decide +kernel
set_option maxRecDepth 100000 in
theorem pm_okl_450 : ((cd_L_law.drop 450).take 45).all (pm_okr pm_S_law) = true := by decide +kernel
set_option maxRecDepth 100000 in
theorem pm_okl_495 : ((cd_L_law.drop 495).take 45).all (pm_okr pm_S_law) = true := by decide +kernel
set_option maxRecDepth 100000 in
theorem pm_okl_540 : ((cd_L_law.drop 540).take 45).all (pm_okr pm_S_law) = true := by decide +kernel
set_option maxRecDepth 100000 in
theorem pm_okl_585 : ((cd_L_law.drop 585).take 45).all (pm_okr pm_S_law) = true := by decide +kernel
set_option maxRecDepth 100000 in
theorem pm_okl_630 : ((cd_L_law.drop 630).take 45).all (pm_okr pm_S_law) = true := by decide +kernel
set_option maxRecDepth 100000 in
theorem pm_okl_675 : ((cd_L_law.drop 675).take 45).all (pm_okr pm_S_law) = true := by decide +kernel
set_option maxRecDepth 100000 in
theorem pm_okl_720 : ((cd_L_law.drop 720).take 45).all (pm_okr pm_S_law) = true := by decide +kernel
theorem pm_all_cut {α : Type} {f : α → Bool} {l : List α} {j k : Nat} (h1 : ((l.drop j).take k).all f = true) (h2 : (l.drop (j + k)).all f = true) : (l.drop j).all f = true := by
  rw [← List.take_append_drop k (l.drop j), List.all_append, h1, List.drop_drop, h2]
  rfl
theorem pm_okl_end : (cd_L_law.drop 765).all (pm_okr pm_S_law) = true := by decide +kernel
theorem pm_okl : cd_L_law.all (pm_okr pm_S_law) = true := (pm_all_cut (j := 0) (k := 45) pm_okl_0 (pm_all_cut (j := 45) (k := 45) pm_okl_45 (pm_all_cut (j := 90) (k := 45) pm_okl_90 (pm_all_cut (j := 135) (k := 45) pm_okl_135 (pm_all_cut (j := 180) (k := 45) pm_okl_180 (pm_all_cut (j := 225) (k := 45) pm_okl_225 (pm_all_cut (j := 270) (k := 45) pm_okl_270 (pm_all_cut (j := 315) (k := 45) pm_okl_315 (pm_all_cut (j := 360) (k := 45) pm_okl_360 (pm_all_cut (j := 405) (k := 45) pm_okl_405 (pm_all_cut (j := 450) (k := 45) pm_okl_450 (pm_all_cut (j := 495) (k := 45) pm_okl_495 (pm_all_cut (j := 540) (k := 45) pm_okl_540 (pm_all_cut (j := 585) (k := 45) pm_okl_585 (pm_all_cut (j := 630) (k := 45) pm_okl_630 (pm_all_cut (j := 675) (k := 45) pm_okl_675 (pm_all_cut (j := 720) (k := 45) pm_okl_720 pm_okl_end)))))))))))))))))
theorem pm_sig_len : pm_sig.length = 166 := by decide +kernel
theorem pm_cod_len : pm_cod.length = 166 := by decide +kernel
theorem pm_ok_row {y : Nat} {S : pm_S} {rs : List pm_R} (h1 : pm_sig[y]? = some S) (h2 : pm_cod[y]? = some rs) : ∀ r ∈ rs, pm_okr S r = true := by
  have hy : y < pm_sig.length := (List.getElem?_eq_some_iff.mp h1).1
  rw [pm_sig_len] at hy
  by_cases hl : y = m_L_law
  · subst hl
    have e1 : S = pm_S_law := (Option.some.inj h1).symm
    have e2 : rs = cd_L_law := (Option.some.inj h2).symm
    subst e1; subst e2
    exact List.all_eq_true.mp pm_okl
  have h := pm_ok_all (y := y) (by simp only [m_L_law] at hl; omega)
  unfold pm_okm at h
  rw [h1, h2] at h
  simp only [Bool.and_eq_true] at h
  exact List.all_eq_true.mp h.1
theorem pm_ok_sig {y : Nat} {S : pm_S} (h1 : pm_sig[y]? = some S) (hn : y ≠ m_L_law) : pm_oks S = true := by
  have hy : y < pm_sig.length := (List.getElem?_eq_some_iff.mp h1).1
  have hy2 : y < pm_cod.length := by rw [pm_cod_len]; rw [pm_sig_len] at hy; exact hy
  rw [pm_sig_len] at hy
  have h := pm_ok_all (y := y) (by simp only [m_L_law] at hn; omega)
  unfold pm_okm at h
  rw [h1, List.getElem?_eq_getElem hy2] at h
  simp only [Bool.and_eq_true] at h
  exact h.2
theorem pm_ok_holds : pm_OK := ⟨fun h1 h2 => pm_ok_row h1 h2, fun h1 h2 => pm_ok_sig h1 h2⟩
