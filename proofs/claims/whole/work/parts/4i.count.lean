/-! how many cards are told right, and whether all are: the class's loops -/
def h_ct (sv : Nat → Int32) : Nat → Nat → Nat → Nat
  | 0, _, c => c
  | q + 1, i, c => h_ct sv q (i + 1) (if sv i = nI i then c + 1 else c)
def h_al (sv : Nat → Int32) : Nat → Nat → Bool
  | 0, _ => true
  | q + 1, i => if sv i = nI i then h_al sv q (i + 1) else false
theorem s_X8_ct_loop (fu : Nat) (hfu : 1000 ≤ fu) {P law c k mo : Nat} {b f s : Int32} {T : Nat → List Nat} (hP : P ≤ 52) (hl : law < 6) (hc : 12 < c ∨ c = 6) : ∀ (q i fn n : Nat) (X : ow_S), X.1 0 11 = nI P → X.1 0 14 = nI law → x_text X.1 (30 + 3 * law) T → x_head X.1 c k mo b f s → i + q = P + 1 → q < fn → (∃ X', L_X8_countRight_4 fu fn c (nI n) (nI i) X = some (nI (h_ct (h_but T P k mo b f s 0) q i n), X') ∧ xsb X X') ∧ (∃ X', L_X8_isRightOfAll_2 fu fn c (nI i) X = some (if h_al (h_but T P k mo b f s 0) q i = true then 1 else 0, X') ∧ xsb X X') := by
  intro q
  induction q with
  | zero =>
    intro i fn n X p3 hR hT hH hi hf
    obtain ⟨fn, rfl⟩ : ∃ q, fn = q + 1 := ⟨fn - 1, by omega⟩
    have hlt : nI P < nI i := by rw [n_lt (by omega) (by omega)]; omega
    refine ⟨⟨X, ?_, xsb.rf X⟩, ⟨X, ?_, xsb.rf X⟩⟩
    · rw [L_X8_countRight_4, p3, if_pos hlt]; rfl
    · rw [L_X8_isRightOfAll_2, p3, if_pos hlt]; rfl
  | succ q ih =>
    intro i fn n X p3 hR hT hH hi hf
    obtain ⟨fn, rfl⟩ : ∃ q, fn = q + 1 := ⟨fn - 1, by omega⟩
    have hlt : ¬ nI P < nI i := by rw [n_lt (by omega) (by omega)]; omega
    obtain ⟨X1, x1, x2⟩ := s_X8_saysBut fu hfu (i := i) (way := 0) (c := c) (t := 30 + 3 * law) hP p3 (by omega) hc hT hH
    have e0 : X1.1 0 = X.1 0 := x2 0 (by decide) (by decide) (by decide) (by decide)
    have go := fun m : Nat => ih (i + 1) fn m X1 (by rw [e0]; exact p3) (by rw [e0]; exact hR) (hT.sb x2 (by omega)) (hH.sb x2 hc) (by omega) (by omega)
    constructor
    · rw [L_X8_countRight_4, p3, if_neg hlt, s_law fu hl hR, e_cl, x1, e_cl, h_ct]
      simp only [L_X8_countRight_30, e_let, show nI i + (1 : Int32) = nI (i + 1) from n_add i 1, show nI n + (1 : Int32) = nI (n + 1) from n_add n 1]
      by_cases c : h_but T P k mo b f s 0 i = nI i
      · rw [if_pos c, if_pos c]
        obtain ⟨X', r1, r2⟩ := (go (n + 1)).1
        exact ⟨X', r1, x2.tr r2⟩
      · rw [if_neg c, if_neg c]
        obtain ⟨X', r1, r2⟩ := (go n).1
        exact ⟨X', r1, x2.tr r2⟩
    · rw [L_X8_isRightOfAll_2, p3, if_neg hlt, s_law fu hl hR, e_cl, x1, e_cl, h_al]
      simp only [e_let, show nI i + (1 : Int32) = nI (i + 1) from n_add i 1]
      by_cases c : h_but T P k mo b f s 0 i = nI i
      · rw [if_pos c, if_pos c]
        obtain ⟨X', r1, r2⟩ := (go 0).2
        exact ⟨X', r1, x2.tr r2⟩
      · rw [if_neg c, if_neg c]
        exact ⟨X1, rfl, x2⟩
