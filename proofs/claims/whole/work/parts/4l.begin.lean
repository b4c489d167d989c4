/-! begin -/
theorem s_begin_loop (fu : Nat) (hfu : 1000 ≤ fu) {P law j k mo : Nat} {b fo s : Int32} {T : Nat → List Nat} (hP : P ≤ 52) (hl : law < 6) (h5 : j < 5) (x2 : Int32) : ∀ (q i fn : Nat) (bx bm most fx fm : Int32) (X M : ow_S), x_at X P law 6 k mo b fx s T → m_at M P law j k mo b fm s T → (bx = bm ∨ (most = -1 ∧ 0 < q)) → i + q = 101 → q < fn → ∃ r X' M', L_X8_begin_44 fu fn x2 bx most (nI i) X = some (r, X') ∧ L_X9_begin_43 fu fn (nI j) x2 fo bm most (nI i) M = some (r, M') ∧ xs6 X X' ∧ msh j M M' ∧ m_head M'.1 j k mo b fo s := by
  have e31 : (3 : Int32) * nI j + (1 : Int32) = nI (3 * j + 1) := by
    rw [show (3 : Int32) * nI j = nI (3 * j) from n_mul 3 j]; exact n_add _ 1
  intro q
  induction q with
  | zero =>
    intro i fn bx bm most fx fm X M hx hm hb hi hf
    obtain ⟨fn, rfl⟩ : ∃ q, fn = q + 1 := ⟨fn - 1, by omega⟩
    have hlt : (100 : Int32) < nI i := by rw [show (100 : Int32) = nI 100 from rfl, n_lt (by decide) (by omega)]; omega
    obtain ⟨h1, h2⟩ := hm.wF fo
    have hbb : bx = bm := hb.resolve_right (fun z => absurd z.2 (by decide))
    subst hbb
    rw [L_X8_begin_44, L_X9_begin_43, if_pos hlt, if_pos hlt, e31, e_ckn _ (by omega) (by omega), n_cl (a := 3 * j + 1) (by omega), e_let]
    by_cases c : x2 = 0
    · rw [if_pos c, if_pos c]; exact ⟨_, _, _, rfl, rfl, xs6.rf X, h2, h1.2.2.2⟩
    · rw [if_neg c, if_neg c]; exact ⟨_, _, _, rfl, rfl, xs6.rf X, h2, h1.2.2.2⟩
  | succ q ih =>
    intro i fn bx bm most fx fm X M hx hm hb hi hf
    obtain ⟨fn, rfl⟩ : ∃ q, fn = q + 1 := ⟨fn - 1, by omega⟩
    have hlt : ¬ (100 : Int32) < nI i := by rw [show (100 : Int32) = nI 100 from rfl, n_lt (by decide) (by omega)]; omega
    have core : ∀ v : Int32, ∃ r X' M', L_X8_begin_71 fu (L_X8_begin_44 fu fn) x2 bx most (nI i) v X = some (r, X') ∧ L_X9_begin_66 fu (L_X9_begin_43 fu fn) (nI j) x2 fo bm most (nI i) v M = some (r, M') ∧ xs6 X X' ∧ msh j M M' ∧ m_head M'.1 j k mo b fo s := by
      intro v
      have hx0 := hx.wF v
      obtain ⟨hm0, mw⟩ := hm.wF v
      obtain ⟨X1, a1, a2⟩ := s_X8_ct fu hfu (c := 6) hP hl (Or.inr rfl) hx0.1 hx0.2.1 hx0.2.2.1 hx0.2.2.2
      obtain ⟨M1, z, c1, c2, c3⟩ := s_X9_ct fu hfu hP hl h5 hm0.1 hm0.2.1 hm0.2.2.1 hm0.2.2.2
      have hx1 := hx0.sb a2 (Or.inr rfl)
      have hm1 := hm0.sb c3
      have w6 : X1.1 6 3 = v := hx1.2.2.2.2.2.2.1
      have hct := (h_ct_le (h_but T P k mo b v s 0) P 1 0).1
      have go : ∀ y z' m : Int32, (y = z' ∨ (m = -1 ∧ 0 < q)) → ∃ r X' M', L_X8_begin_44 fu fn x2 y m (nI (i + 1)) X1 = some (r, X') ∧ L_X9_begin_43 fu fn (nI j) x2 fo z' m (nI (i + 1)) M1 = some (r, M') ∧ xs6 X X' ∧ msh j M M' ∧ m_head M'.1 j k mo b fo s := by
        intro y z' m hyz
        obtain ⟨r, X', M', d1, d2, d3, d4, d5⟩ := ih (i + 1) fn y z' m _ _ X1 M1 hx1 hm1 hyz (by omega) (by omega)
        exact ⟨r, X', M', d1, d2, ((xs6.w X 3 v).tr a2.s6).tr d3, (mw.tr (c3.sh j)).tr d4, d5⟩
      rw [L_X8_begin_71, L_X9_begin_66, e31, e_ckn _ (by omega) (by omega), n_cl (a := 3 * j + 1) (by omega), e_let, e_let, a1, e_cl, c1, e_cl, c2, e_cl]
      simp only [L_X8_begin_103, L_X9_begin_105, L_X9_begin_121, e_let, show nI i + (1 : Int32) = nI (i + 1) from n_add i 1, w6]
      by_cases c : nI (h_ct (h_but T P k mo b v s 0) P 1 0) ≤ most
      · simp only [if_pos c]
        refine go _ _ _ ?_
        rcases hb with hb | ⟨hb, -⟩
        · exact Or.inl hb
        · rw [hb] at c
          exact absurd (Int32.lt_of_le_of_lt c (by decide : (-1 : Int32) < 0)) (nI_pos (by omega))
      · simp only [if_neg c]
        exact go _ _ _ (Or.inl rfl)
    rw [L_X8_begin_44, L_X9_begin_43, if_neg hlt, if_neg hlt]
    by_cases c : i = 100
    · rw [if_pos (show (100 : Int32) ≤ nI i by rw [c]; decide), if_pos (show nI i = (100 : Int32) by rw [c]; rfl), f_X8_packSum, f_X9_packSum, e_cl, e_cl, hx.1, hm.1]
      exact core _
    · rw [if_neg (show ¬ (100 : Int32) ≤ nI i by rw [show (100 : Int32) = nI 100 from rfl, n_le (by decide) (by omega)]; omega), if_neg (show ¬ nI i = (100 : Int32) by rw [show (100 : Int32) = nI 100 from rfl, n_eq (by omega) (by decide)]; exact c)]
      exact core _
theorem o_begin (fu : Nat) (hfu : 1000 ≤ fu) (a1 a2 : Int32) : sameI (f_X8_begin fu a1 a2) (f_X9_begin fu a1 a2) := by
  intro X M h
  have stop : ∀ v : Int32, ∃ r X' M', some (v, X) = some (r, X') ∧ some (v, M) = some (r, M') ∧ Rl X' M' := fun v => ⟨_, _, _, rfl, rfl, h⟩
  obtain ⟨hc, q1, q2, q3, q4, b, e1, e2, hb⟩ := s_isHead fu h.2.1 a1
  rw [f_X8_begin, f_X9_begin, e1, e2, e_cl, e_cl]
  cases b with
  | false => exact stop _
  | true =>
    obtain ⟨j, hj, rfl⟩ := hb rfl
    obtain ⟨P, law, T, k, mo, bb, f, s, p1, p2, hl, hx, hm, -⟩ := h.hat q2 q1 hj
    have e31 : (3 : Int32) * nI j + (1 : Int32) = nI (3 * j + 1) := by
      rw [show (3 : Int32) * nI j = nI (3 * j) from n_mul 3 j]; exact n_add _ 1
    rw [if_pos rfl, if_neg (show ¬ (1 : Int32) = 0 by decide), if_neg (show ¬ (1 : Int32) = 0 by decide), s_inb, e_cl]
    rcases c_le (w := 1) (by decide) a2 with ⟨c1, c2⟩ | ⟨n, hn, rfl, c1, c2⟩
    · rw [show inb a2 0 1 = 0 from c1, if_pos rfl]
      rw [show (1 : Int32) = nI 1 from rfl, c2]; exact stop _
    · rw [show inb (nI n) 0 1 = 1 from c1, if_neg (show ¬ (1 : Int32) = 0 by decide)]
      obtain ⟨X1, x1, x2, x3⟩ := s_trial fu hx
      obtain ⟨r, X', M', d1, d2, d3, d4, d5⟩ := s_begin_loop fu hfu (fo := nI f) p2 hl (show j < 5 by omega) (nI n) 101 0 fu 0 (-1) (-1) _ _ X1 M x2 hm (Or.inr ⟨rfl, by omega⟩) (by omega) (by omega)
      have c2' : ∀ {α : Type} (s K : α), (if nI n < 0 then s else if nI n ≤ (1 : Int32) then K else s) = K := c2
      rw [c2', e_ckn _ (by omega) (by omega), n_cl (a := j) (by omega), e_let, x1, e_cv, e31, e_ckn _ (by omega) (by omega), n_cl (a := 3 * j + 1) (by omega), e_let, hm.2.2.2.2.2.2.1]
      exact ⟨r, X', M', d1, d2, h.sc (x3.tr d3).sc (d4.fin hm.2.2.2 d5)⟩
