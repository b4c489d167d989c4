/-! told sayings: judge, whose -/
def h_fu (sv ce : Nat → Int32) : Nat → Nat → Int32
  | 0, _ => -1
  | q + 1, i => if sv (i + 1) = ce i then h_fu sv ce q (i + 1) else nI i
def x_sh (X : ow_S) (s0 sz : Nat) (ce : Nat → Int32) : Prop := X.1 (48 + 2 * s0) 2 = nI sz ∧ ∀ z, z < 40 → X.1 (48 + 2 * s0 + 1) z = ce z
def m_sh (M : ow_S) (s0 sz : Nat) (ce : Nat → Int32) : Prop := M.1 67 s0 = nI sz ∧ ∀ z, z < 40 → M.1 68 (40 * s0 + z) = ce z
theorem x_sh.s6 {X X' : ow_S} {s0 sz : Nat} {ce : Nat → Int32} (h : x_sh X s0 sz ce) (w : xs6 X X') : x_sh X' s0 sz ce := by
  unfold x_sh at h ⊢; rw [w (48 + 2 * s0) (by omega) (by omega) (by omega) (by omega) (by omega), w (48 + 2 * s0 + 1) (by omega) (by omega) (by omega) (by omega) (by omega)]; exact h
theorem m_sh.eq {M M' : ow_S} {s0 sz : Nat} {ce : Nat → Int32} (h : m_sh M s0 sz ce) (a : M'.1 67 = M.1 67) (b : M'.1 68 = M.1 68) : m_sh M' s0 sz ce := by
  unfold m_sh at h ⊢; rw [a, b]; exact h
theorem m_sh.sb {M M' : ow_S} {s0 sz : Nat} {ce : Nat → Int32} (h : m_sh M s0 sz ce) (w : msb M M') : m_sh M' s0 sz ce := h.eq (w.1 67 (by decide) (by decide) (by decide) (by decide)) (w.1 68 (by decide) (by decide) (by decide) (by decide))
theorem m_sh.sh {M M' : ow_S} {j s0 sz : Nat} {ce : Nat → Int32} (h : m_sh M s0 sz ce) (w : msh j M M') : m_sh M' s0 sz ce := h.eq (w.1 67 (by decide) (by decide) (by decide) (by decide) (by decide) (by decide) (by decide)) (w.1 68 (by decide) (by decide) (by decide) (by decide) (by decide) (by decide) (by decide))
theorem s_X8_fu_loop (fu : Nat) (hfu : 1000 ≤ fu) {P c k mo t s0 sz : Nat} {b f s : Int32} {T : Nat → List Nat} {ce : Nat → Int32} (hP : P ≤ 52) (ht : 12 < t) (hc : 12 < c ∨ c = 6) (hs : s0 < 4) (hz : sz ≤ 40) : ∀ (q i fn : Nat) (X : ow_S), X.1 0 11 = nI P → x_text X.1 t T → x_head X.1 c k mo b f s → x_sh X s0 sz ce → i + q = sz → q < fn → ∃ X', L_X8_firstUnlike_3 fu fn (48 + 2 * s0) c t (nI i) X = some (h_fu (h_but T P k mo b f s 0) ce q i, X') ∧ xsb X X' := by
  intro q
  induction q with
  | zero =>
    intro i fn X p3 hT hH hS hi hf
    obtain ⟨fn, rfl⟩ : ∃ q, fn = q + 1 := ⟨fn - 1, by omega⟩
    refine ⟨X, ?_, xsb.rf X⟩
    rw [L_X8_firstUnlike_3, hS.1, if_pos (by rw [n_le (by omega) (by omega)]; omega)]; rfl
  | succ q ih =>
    intro i fn X p3 hT hH hS hi hf
    obtain ⟨fn, rfl⟩ : ∃ q, fn = q + 1 := ⟨fn - 1, by omega⟩
    obtain ⟨X1, x1, x2⟩ := s_X8_saysBut fu hfu (i := i + 1) (way := 0) hP p3 ht hc hT hH
    have hS1 := hS.s6 x2.s6
    rw [L_X8_firstUnlike_3, hS.1, if_neg (by rw [n_le (by omega) (by omega)]; omega), show nI i + (1 : Int32) = nI (i + 1) from n_add i 1, x1, e_cl, e_ckn _ (by omega) (by omega), n_cl (a := i) (by omega), hS1.2 i (by omega), h_fu]
    by_cases c : h_but T P k mo b f s 0 (i + 1) = ce i
    · rw [if_pos c, if_pos c, e_let]
      obtain ⟨X2, y1, y2⟩ := ih (i + 1) fn X1 (by rw [x2 0 (by decide) (by decide) (by decide) (by decide)]; exact p3) (hT.sb x2 ht) (hH.sb x2 hc) hS1 (by omega) (by omega)
      exact ⟨X2, y1, x2.tr y2⟩
    · rw [if_neg c, if_neg c]; exact ⟨X1, rfl, x2⟩
theorem s_X8_fu (fu : Nat) (hfu : 1000 ≤ fu) {X : ow_S} {P c k mo t s0 sz : Nat} {b f s : Int32} {T : Nat → List Nat} {ce : Nat → Int32} (hP : P ≤ 52) (ht : 12 < t) (hc : 12 < c ∨ c = 6) (hs : s0 < 4) (hz : sz ≤ 40) (p3 : X.1 0 11 = nI P) (hT : x_text X.1 t T) (hH : x_head X.1 c k mo b f s) (hS : x_sh X s0 sz ce) : ∃ X', f_X8_firstUnlike fu (48 + 2 * s0) c t X = some (h_fu (h_but T P k mo b f s 0) ce sz 0, X') ∧ xsb X X' :=
  s_X8_fu_loop fu hfu hP ht hc hs hz sz 0 fu X p3 hT hH hS (by omega) (by omega)
theorem s_X9_fu_loop (fu : Nat) (hfu : 1000 ≤ fu) {P law j k mo s0 sz : Nat} {b f s : Int32} {T : Nat → List Nat} {ce : Nat → Int32} (hP : P ≤ 52) (hl : law < 6) (h5 : j < 5) (hs : s0 < 4) (hz : sz ≤ 40) : ∀ (q i fn : Nat) (M : ow_S), m_at M P law j k mo b f s T → m_sh M s0 sz ce → i + q = sz → q < fn → ∃ M', L_X9_unlike_2 fu fn (nI s0) (nI j) (nI i) M = some (h_fu (h_but T P k mo b f s 0) ce q i, M') ∧ msb M M' := by
  intro q
  induction q with
  | zero =>
    intro i fn M hm hS hi hf
    obtain ⟨fn, rfl⟩ : ∃ q, fn = q + 1 := ⟨fn - 1, by omega⟩
    refine ⟨M, ?_, msb.rf M⟩
    rw [L_X9_unlike_2, e_ckn _ (by omega) (by omega), n_cl (a := s0) (by omega), hS.1, if_pos (by rw [n_le (by omega) (by omega)]; omega)]; rfl
  | succ q ih =>
    intro i fn M hm hS hi hf
    obtain ⟨fn, rfl⟩ : ∃ q, fn = q + 1 := ⟨fn - 1, by omega⟩
    obtain ⟨M1, M2, m1, m2, m3⟩ := s_X9_saysBut fu hfu (i := i + 1) (way := 0) hP hm.1 hl h5 hm.2.1 hm.2.2.1 hm.2.2.2
    have hS1 := hS.sb m3
    rw [L_X9_unlike_2, e_ckn _ (by omega) (by omega), n_cl (a := s0) (by omega), hS.1, if_neg (by rw [n_le (by omega) (by omega)]; omega), show nI i + (1 : Int32) = nI (i + 1) from n_add i 1, m1, e_cv, m2, e_cl, show (40 : Int32) * nI s0 = nI (40 * s0) from n_mul 40 s0, n_add, e_ckn _ (by omega) (by omega), n_cl (a := 40 * s0 + i) (by omega), hS1.2 i (by omega), h_fu]
    by_cases c : h_but T P k mo b f s 0 (i + 1) = ce i
    · rw [if_pos c, if_pos c, e_let]
      obtain ⟨M3, y1, y2⟩ := ih (i + 1) fn M2 (hm.sb m3) hS1 (by omega) (by omega)
      exact ⟨M3, y1, m3.tr y2⟩
    · rw [if_neg c, if_neg c]; exact ⟨M2, rfl, m3⟩
theorem s_X9_fu (fu : Nat) (hfu : 1000 ≤ fu) {M : ow_S} {P law j k mo s0 sz : Nat} {b f s : Int32} {T : Nat → List Nat} {ce : Nat → Int32} (hP : P ≤ 52) (hl : law < 6) (h5 : j < 5) (hs : s0 < 4) (hz : sz ≤ 40) (hm : m_at M P law j k mo b f s T) (hS : m_sh M s0 sz ce) : ∃ M', f_X9_unlike fu (nI s0) (nI j) M = some (h_fu (h_but T P k mo b f s 0) ce sz 0, M') ∧ msb M M' :=
  s_X9_fu_loop fu hfu hP hl h5 hs hz sz 0 fu M hm hS (by omega) (by omega)
theorem s_refs (fu : Nat) {X M : ow_S} (h : Rl X M) (a : Int32) : ∃ r, f_X8_refusalOfSheet fu a X = some (r, X) ∧ f_X9_sheetWrong fu a M = some (r, M) ∧ (r = 0 → ∃ (s0 sz : Nat) (ce : Nat → Int32), s0 < 4 ∧ sz ≤ 40 ∧ a = nI s0 ∧ x_sh X s0 sz ce ∧ m_sh M s0 sz ce) := by
  rw [f_X8_refusalOfSheet, f_X9_sheetWrong, s_isSheet, s_inb, e_cl, e_cl]
  rcases inb_cases (v := a) (a := 0) (b := 3) (by decide) (by decide) with i1 | ⟨i1, s, s1, s2, rfl⟩
  · rw [show inb a 0 3 = 0 from i1, if_pos rfl, if_pos rfl]; exact ⟨_, rfl, rfl, fun z => absurd z (by decide)⟩
  obtain ⟨so, sz, w1, w2, w3, w4, w5, w6, w7⟩ := h.2.2.2.2.2.1 s (by omega)
  obtain ⟨P, l, p1, p2, p3, p4, -⟩ := h.1
  rw [show inb (nI s) 0 3 = 1 from i1, if_neg (show ¬ (1 : Int32) = 0 by decide), if_neg (show ¬ (1 : Int32) = 0 by decide)]
  have cl : (nI s).toNatClampNeg = s := n_cl (by omega)
  have ck : ∀ K : Option (Int32 × ow_S), ow_ck (ow_bd (nI s) 4) K = K := fun K => e_ckn K (by omega) (by omega)
  simp only [cl, ck, e_let, f_X5_isMissing, w3, w4]
  by_cases c0 : nI so - 1 = (-1 : Int32)
  · rw [if_pos c0, if_pos c0, e_cl, if_neg (show ¬ (1 : Int32) = 0 by decide)]; exact ⟨_, rfl, rfl, fun z => absurd z (by decide)⟩
  rw [if_neg c0, if_neg c0, e_cl, if_pos rfl, w5, w6, p3, p4]
  by_cases c1 : nI sz ≤ nI P
  · rw [if_pos c1, if_pos c1]
    exact ⟨0, rfl, rfl, fun _ => ⟨s, sz, fun z => X.1 (48 + 2 * s + 1) z, by omega, w2, rfl, ⟨w5, fun z _ => rfl⟩, w6, fun z hz => (w7 z hz).symm⟩⟩
  · rw [if_neg c1, if_neg c1]; exact ⟨_, rfl, rfl, fun z => absurd z (by decide)⟩
theorem s_reft (fu : Nat) {X M : ow_S} (h : Rl X M) (a a' : Int32) : ∃ r, f_X8_refusalOfSayings fu a a' X = some (r, X) ∧ f_X9_toldWrong fu a a' M = some (r, M) ∧ (r = 0 → ∃ (s0 sz hc j : Nat) (ce : Nat → Int32), s0 < 4 ∧ sz ≤ 40 ∧ a = nI s0 ∧ x_sh X s0 sz ce ∧ m_sh M s0 sz ce ∧ X.1 0 12 = nI hc ∧ hc ≤ 5 ∧ j < hc ∧ a' = nI j) := by
  obtain ⟨r, e1, e2, e3⟩ := s_refs fu h a
  rw [f_X8_refusalOfSayings, f_X9_toldWrong, e1, e2, e_cl, e_cl]
  by_cases c : r = 0
  · obtain ⟨s0, sz, ce, w1, w2, w3, w4, w5⟩ := e3 c
    obtain ⟨hc, q1, q2, q3, q4, b, u1, u2, hb⟩ := s_isHead fu h.2.1 a'
    rw [if_pos c, if_pos c, u1, u2, e_cl, e_cl]
    cases b with
    | false => exact ⟨_, rfl, rfl, fun z => absurd z (by decide)⟩
    | true =>
      obtain ⟨j, hj, hj'⟩ := hb rfl
      exact ⟨0, rfl, rfl, fun _ => ⟨s0, sz, hc, j, ce, w1, w2, w3, w4, w5, q2, q1, hj, hj'⟩⟩
  · rw [if_neg c, if_neg c]; exact ⟨r, rfl, rfl, fun z => absurd z c⟩
/-- both sides' first unlike one, of a head that is there under the law -/
theorem s_fu2 (fu : Nat) (hfu : 1000 ≤ fu) {X M : ow_S} (h : Rl X M) {hc j s0 sz : Nat} {ce : Nat → Int32} (q2 : X.1 0 12 = nI hc) (h5 : hc ≤ 5) (hj : j < hc) (hs : s0 < 4) (hz : sz ≤ 40) (hS : x_sh X s0 sz ce) (hS' : m_sh M s0 sz ce) : ∃ v X1 M1 t, f_X8_lawText fu X = some (t, X) ∧ f_X8_firstUnlike fu (48 + 2 * s0) (25 + j) t X = some (v, X1) ∧ f_X9_unlike fu (nI s0) (nI j) M = some (v, M1) ∧ Rl X1 M1 ∧ xsb X X1 ∧ msb M M1 := by
  obtain ⟨P, law, T, k, mo, bb, f, s, p1, p2, hl, hx, hm, -⟩ := h.hat q2 h5 hj
  obtain ⟨X1, x1, x2⟩ := s_X8_fu fu hfu (c := 25 + j) (t := 30 + 3 * law) p2 (by omega) (Or.inl (by omega)) hs hz hx.1 hx.2.2.1 hx.2.2.2 hS
  obtain ⟨M1, m1, m2⟩ := s_X9_fu fu hfu p2 hl (show j < 5 by omega) hs hz hm hS'
  exact ⟨_, X1, M1, _, s_law fu hl hx.2.1, x1, m1, h.sc x2.sc m2.sc, x2, m2⟩
theorem o_judge (fu : Nat) (hfu : 1000 ≤ fu) (a1 a2 : Int32) : sameI (f_X8_judge fu a1 a2) (f_X9_judge fu a1 a2) := by
  intro X M h
  obtain ⟨r, e1, e2, e3⟩ := s_reft fu h a1 a2
  rw [f_X8_judge, f_X9_judge, e1, e2, e_cl, e_cl]
  by_cases c : r = 0
  · obtain ⟨s0, sz, hc, j, ce, w1, w2, rfl, w4, w5, q2, h5, hj, rfl⟩ := e3 c
    obtain ⟨v, X1, M1, t, u1, u2, u3, u4, -⟩ := s_fu2 fu hfu h q2 h5 hj w1 w2 w4 w5
    rw [if_pos c, if_pos c, e_ckn _ (by omega) (by omega), n_cl (a := s0) (by omega), e_let, e_ckn _ (by omega) (by omega), n_cl (a := j) (by omega), e_let, u1, e_cl, u2, e_cl, u3, e_cl]
    exact ⟨_, _, _, rfl, rfl, u4⟩
  · rw [if_neg c, if_neg c]; exact ⟨_, _, _, rfl, rfl, h⟩
theorem s_whose_loop (fu : Nat) (hfu : 1000 ≤ fu) {hc s0 sz : Nat} {ce : Nat → Int32} (h5 : hc ≤ 5) (hs : s0 < 4) (hz : sz ≤ 40) : ∀ (q i fn : Nat) (x3 : Int32) (X M : ow_S), Rl X M → X.1 0 12 = nI hc → M.1 56 3 = nI hc → x_sh X s0 sz ce → m_sh M s0 sz ce → i + q = hc → q < fn → ∃ r X' M', L_X8_whose_17 fu fn (nI s0) x3 (nI i) X = some (r, X') ∧ L_X9_whose_17 fu fn (nI s0) x3 (nI i) M = some (r, M') ∧ Rl X' M' := by
  intro q
  induction q with
  | zero =>
    intro i fn x3 X M h q2 q3 hS hS' hi hf
    obtain ⟨fn, rfl⟩ : ∃ q, fn = q + 1 := ⟨fn - 1, by omega⟩
    have hle : nI hc ≤ nI i := by rw [n_le (by omega) (by omega)]; omega
    rw [L_X8_whose_17, L_X9_whose_17, q2, q3, if_pos hle, if_pos hle]
    exact ⟨_, _, _, rfl, rfl, h⟩
  | succ q ih =>
    intro i fn x3 X M h q2 q3 hS hS' hi hf
    obtain ⟨fn, rfl⟩ : ∃ q, fn = q + 1 := ⟨fn - 1, by omega⟩
    have hle : ¬ nI hc ≤ nI i := by rw [n_le (by omega) (by omega)]; omega
    obtain ⟨v, X1, M1, t, u1, u2, u3, u4, xw, mw⟩ := s_fu2 fu hfu h q2 h5 (show i < hc by omega) hs hz hS hS'
    have go := fun y : Int32 => ih (i + 1) fn y X1 M1 u4 (by rw [xw 0 (by decide) (by decide) (by decide) (by decide)]; exact q2) ((mw.2 3 (by decide) (by decide) (by decide)).trans q3) (hS.s6 xw.s6) (hS'.sb mw) (by omega) (by omega)
    rw [L_X8_whose_17, L_X9_whose_17, q2, q3, if_neg hle, if_neg hle, e_ckn _ (by omega) (by omega), n_cl (a := s0) (by omega), e_let, e_ckn _ (by omega) (by omega), n_cl (a := i) (by omega), e_let, u1, e_cl, u2, e_cl, u3, e_cl]
    simp only [L_X8_whose_58, L_X9_whose_46, e_let, show nI i + (1 : Int32) = nI (i + 1) from n_add i 1, Int32.or_zero]
    by_cases c : v = -1
    · simp only [if_pos c]; exact go _
    · simp only [if_neg c]; exact go _
theorem o_whose (fu : Nat) (hfu : 1000 ≤ fu) (a1 : Int32) : sameI (f_X8_whose fu a1) (f_X9_whose fu a1) := by
  intro X M h
  obtain ⟨r, e1, e2, e3⟩ := s_refs fu h a1
  obtain ⟨hc, q1, q2, q3, -⟩ := h.2.1
  rw [f_X8_whose, f_X9_whose, e1, e2, e_cl, e_cl]
  by_cases c : r = 0
  · obtain ⟨s0, sz, ce, w1, w2, rfl, w4, w5⟩ := e3 c
    rw [if_pos c, if_pos c]
    exact s_whose_loop fu hfu q1 w1 w2 hc 0 fu 0 X M h q2 q3 w4 w5 (by omega) (by omega)
  · rw [if_neg c, if_neg c]; exact ⟨_, _, _, rfl, rfl, h⟩
