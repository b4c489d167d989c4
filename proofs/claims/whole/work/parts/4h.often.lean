/-! often -/
theorem s_often_loop (fu : Nat) (hfu : 1000 ≤ fu) {hc j n : Nat} (h5 : hc ≤ 5) (hj : j < hc) (hn : n ≤ 20) (x3 : Int32) : ∀ (q i fn : Nat) (l : List Int32) (x4 : Int32) (X M : ow_S), Rl X M → X.1 0 12 = nI hc → x_row X.1 3 l → m_ws M l → i + q = n → q < fn → ∃ r X' M', L_X8_often_56 fu fn (nI j) (nI n) x3 x4 (nI i) X = some (r, X') ∧ L_X9_often_45 fu fn (nI j) (nI n) x3 x4 (nI i) M = some (r, M') ∧ Rl X' M' := by
  intro q
  induction q with
  | zero =>
    intro i fn l x4 X M h q2 hx hm hi hf
    obtain ⟨fn, rfl⟩ : ∃ q, fn = q + 1 := ⟨fn - 1, by omega⟩
    have hle : nI n ≤ nI i := by rw [n_le (by omega) (by omega)]; omega
    rw [L_X8_often_56, L_X9_often_45, if_pos hle, if_pos hle]
    exact ⟨_, _, _, rfl, rfl, h⟩
  | succ q ih =>
    intro i fn l x4 X M h q2 hx hm hi hf
    obtain ⟨fn, rfl⟩ : ∃ q, fn = q + 1 := ⟨fn - 1, by omega⟩
    have hle : ¬ nI n ≤ nI i := by rw [n_le (by omega) (by omega)]; omega
    have h60 := hx.2.1
    obtain ⟨v, X1, M1, s1, s2, s3, s4, s5⟩ := s_says2 fu hfu h q2 h5 hj (Or.inr rfl) hx hm
    obtain ⟨X2, y1, y2, y3⟩ := s_X4_beTurned fu hfu (r := 3) (how := 1) (by decide) (hx.fs s4 (by decide))
    obtain ⟨M2, n1, n2, n3⟩ := s_X9_turnsOver fu hfu (how := 1) (by decide) (hm.fw s5) h60
    have hR : Rl X2 M2 := s3.sc y3.sc n3.sc
    have go : ∀ w : Int32, ∃ r X' M', L_X8_often_56 fu fn (nI j) (nI n) x3 w (nI (i + 1)) X2 = some (r, X') ∧ L_X9_often_45 fu fn (nI j) (nI n) x3 w (nI (i + 1)) M2 = some (r, M') ∧ Rl X' M' := fun w => ih (i + 1) fn _ w X2 M2 hR (by rw [y3.1 0 (by decide) (by decide), s4 0 (by decide) (by decide)]; exact q2) y2 n2 (by omega) (by omega)
    rw [show nI 1 = (1 : Int32) from rfl] at y1 n1
    rw [L_X8_often_56, L_X9_often_45, if_neg hle, if_neg hle, e_ckn _ (by omega) (by omega), n_cl (a := j) (by omega), e_let, s1, e_cl, s2, e_cl]
    simp only [L_X8_often_83, L_X9_often_67, e_let, y1, n1, e_cv, show nI i + (1 : Int32) = nI (i + 1) from n_add i 1, show x4 + (0 : Int32) = x4 from Int32.add_zero x4]
    by_cases c : v = x3
    · simp only [if_pos c]; exact go _
    · simp only [if_neg c]; exact go _
theorem o_often (fu : Nat) (hfu : 1000 ≤ fu) (a1 a2 a3 : Int32) : sameI (f_X8_often fu a1 a2 a3) (f_X9_often fu a1 a2 a3) := by
  intro X M h
  have stop : ∀ v : Int32, ∃ r X' M', some (v, X) = some (r, X') ∧ some (v, M) = some (r, M') ∧ Rl X' M' := fun v => ⟨_, _, _, rfl, rfl, h⟩
  obtain ⟨hc, q1, q2, q3, q4, b, e1, e2, hb⟩ := s_isHead fu h.2.1 a1
  obtain ⟨P, l, p1, p2, p3, p4, p5, p6, p7, p8⟩ := h.1
  have h60 := p5.2.1
  rw [f_X8_often, f_X9_often, e1, e2, e_cl, e_cl]
  cases b with
  | false => exact stop _
  | true =>
    obtain ⟨j, hj, rfl⟩ := hb rfl
    rw [if_pos rfl, if_neg (show ¬ (1 : Int32) = 0 by decide), if_neg (show ¬ (1 : Int32) = 0 by decide), s_inb, e_cl]
    rcases inb_cases (v := a2) (a := 1) (b := 20) (by decide) (by decide) with i2 | ⟨i2, n, n1, n2, rfl⟩
    · rw [show inb a2 1 20 = 0 from i2, if_pos rfl]
      unfold inb at i2
      by_cases c1 : a2 < 1
      · rw [if_pos c1]; exact stop _
      · rw [if_neg c1]
        rw [if_neg (show ¬ a2 < nI 1 from c1)] at i2
        by_cases c2 : (20 : Int32) < a2
        · rw [if_pos c2]; exact stop _
        · rw [if_neg (show ¬ nI 20 < a2 from c2)] at i2; exact absurd i2 (by decide)
    have k1 : ¬ nI n < (1 : Int32) := by rw [show (1 : Int32) = nI 1 from rfl, n_lt (by omega) (by decide)]; omega
    have k2 : ¬ (20 : Int32) < nI n := by rw [show (20 : Int32) = nI 20 from rfl, n_lt (by decide) (by omega)]; omega
    rw [show inb (nI n) 1 20 = 1 from i2, if_neg k1, if_neg k2, if_neg (show ¬ (1 : Int32) = 0 by decide), s_in, e_cl]
    by_cases c3 : a3 < -1000000
    · rw [if_pos c3, if_pos c3, if_pos rfl]; exact stop _
    rw [if_neg c3, if_neg c3]
    by_cases c4 : a3 ≤ 1000000
    · rw [if_pos c4, if_neg (Int32.not_lt.mpr c4), if_neg (show ¬ (1 : Int32) = 0 by decide)]
      obtain ⟨X1, x1, x2, x3⟩ := s_X4_become fu hfu (r := 3) (q := 1) (by decide) (by decide) (by decide) p5
      obtain ⟨M1, m1, m2, m3⟩ := s_X9_laysRow fu hfu (l := l) (σ := M) ⟨p6, h60, p7⟩
      rw [x1, e_cv, m1, e_cv]
      exact s_often_loop fu hfu q1 hj n2 a3 n 0 fu l 0 X1 M1 (h.sc x3.sc m3.sc) (by rw [x3.1 0 (by decide) (by decide)]; exact q2) x2 m2 (by omega) (by omega)
    · rw [if_neg c4, if_pos (Int32.not_le.mp c4), if_pos rfl]; exact stop _
