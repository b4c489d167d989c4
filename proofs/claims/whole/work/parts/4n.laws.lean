/-! laws, film -/
def msl (M M' : ow_S) : Prop := (∀ c, c ≠ 72 → c ≠ 73 → c ≠ 74 → c ≠ 56 → M'.1 c = M.1 c) ∧ ∀ z, z ≠ 36 → z ≠ 37 → z ≠ 38 → z ≠ 12 → M'.1 56 z = M.1 56 z
theorem msl.rf (M : ow_S) : msl M M := ⟨fun _ _ _ _ _ => rfl, fun _ _ _ _ _ => rfl⟩
theorem msl.tr {a b c : ow_S} (p : msl a b) (q : msl b c) : msl a c := ⟨fun k h1 h2 h3 h4 => (q.1 k h1 h2 h3 h4).trans (p.1 k h1 h2 h3 h4), fun z h1 h2 h3 h4 => (q.2 z h1 h2 h3 h4).trans (p.2 z h1 h2 h3 h4)⟩
theorem msb.sl {M M' : ow_S} (w : msb M M') : msl M M' := ⟨w.1, fun z h1 h2 h3 _ => w.2 z h1 h2 h3⟩
theorem msl.w (M : ow_S) (v : Int32) : msl M (ow_sI M 56 12 v) := ⟨fun c _ _ _ h => g_k _ _ h, fun z _ _ _ h => g_j _ _ h⟩
theorem msl.fin {M M' : ow_S} (w : msl M M') (h : M'.1 56 12 = M.1 56 12) : msc M M' := ⟨fun c hc => w.1 c (by omega) (by omega) (by omega) (by omega), fun z hz => by
  by_cases e : z = 12
  · rw [e]; exact h
  · exact w.2 z (by omega) (by omega) (by omega) e⟩
theorem m_head.eq {M M' : Nat → Nat → Int32} {h k mo : Nat} {b f s : Int32} (hh : m_head M h k mo b f s) (a : M' 58 = M 58) (a' : M' 59 = M 59) (a'' : M' 60 = M 60) : m_head M' h k mo b f s := by
  unfold m_head at hh ⊢; rw [a, a', a'']; exact hh
theorem s_laws_loop (fu : Nat) (hfu : 1000 ≤ fu) {P tc j k mo s0 sz : Nat} {b f s x4 : Int32} {ce : Nat → Int32} {TT : Nat → Nat → List Nat} (hP : P ≤ 52) (htc : tc ≤ 6) (h5 : j < 5) (hs : s0 < 4) (hz : sz ≤ 40) : ∀ (q i fn : Nat) (x5 : Int32) (X M : ow_S), X.1 0 11 = nI P → X.1 0 13 = nI tc → M.1 56 0 = nI P → M.1 56 11 = nI tc → (∀ t, t < tc → x_text X.1 (30 + 3 * t) (TT t) ∧ m_text M.1 t (TT t)) → x_head X.1 (25 + j) k mo b f s → m_head M.1 j k mo b f s → x_sh X s0 sz ce → m_sh M s0 sz ce → i + q = tc → q < fn → ∃ r X' M', L_X8_laws_19 fu fn (nI s0) (nI j) x5 (nI i) X = some (r, X') ∧ L_X9_laws_25 fu fn (nI s0) (nI j) x4 x5 (nI i) M = some (r, M') ∧ xsb X X' ∧ msl M M' ∧ M'.1 56 12 = x4 := by
  intro q
  induction q with
  | zero =>
    intro i fn x5 X M p3 q3 p4 q4 hT hx hm hS hS' hi hf
    obtain ⟨fn, rfl⟩ : ∃ q, fn = q + 1 := ⟨fn - 1, by omega⟩
    have hle : nI tc ≤ nI i := by rw [n_le (by omega) (by omega)]; omega
    rw [L_X8_laws_19, L_X9_laws_25, q3, q4, if_pos hle, if_pos hle, e_let]
    exact ⟨_, _, _, rfl, rfl, xsb.rf X, msl.w M x4, g_same _ _ _ _⟩
  | succ q ih =>
    intro i fn x5 X M p3 q3 p4 q4 hT hx hm hS hS' hi hf
    obtain ⟨fn, rfl⟩ : ∃ q, fn = q + 1 := ⟨fn - 1, by omega⟩
    have hle : ¬ nI tc ≤ nI i := by rw [n_le (by omega) (by omega)]; omega
    obtain ⟨t1, t2⟩ := hT i (by omega)
    have w0 := msl.w M (nI i)
    have e62 : (ow_sI M 56 12 (nI i)).1 62 = M.1 62 := g_k _ _ (by decide)
    have e63 : (ow_sI M 56 12 (nI i)).1 63 = M.1 63 := g_k _ _ (by decide)
    have hm0 : m_at (ow_sI M 56 12 (nI i)) P i j k mo b f s (TT i) := ⟨(g_j _ _ (by decide)).trans p4, g_same _ _ _ _, t2.eq e62 e63, hm.eq (g_k _ _ (by decide)) (g_k _ _ (by decide)) (g_k _ _ (by decide))⟩
    obtain ⟨X1, x1, x2⟩ := s_X8_fu fu hfu (c := 25 + j) (t := 30 + 3 * i) hP (by omega) (Or.inl (by omega)) hs hz p3 t1 hx hS
    obtain ⟨M1, m1, m2⟩ := s_X9_fu fu hfu hP (show i < 6 by omega) h5 hs hz hm0 (hS'.eq (g_k _ _ (by decide)) (g_k _ _ (by decide)))
    have w1 := w0.tr m2.sl
    have e0 : X1.1 0 = X.1 0 := x2 0 (by decide) (by decide) (by decide) (by decide)
    have go : ∀ y : Int32, ∃ r X' M', L_X8_laws_19 fu fn (nI s0) (nI j) y (nI (i + 1)) X1 = some (r, X') ∧ L_X9_laws_25 fu fn (nI s0) (nI j) x4 y (nI (i + 1)) M1 = some (r, M') ∧ xsb X X' ∧ msl M M' ∧ M'.1 56 12 = x4 := by
      intro y
      obtain ⟨r, X', M', d1, d2, d3, d4, d5⟩ := ih (i + 1) fn y X1 M1 (by rw [e0]; exact p3) (by rw [e0]; exact q3) ((w1.2 0 (by decide) (by decide) (by decide) (by decide)).trans p4) ((w1.2 11 (by decide) (by decide) (by decide) (by decide)).trans q4) (fun t ht => ⟨(hT t ht).1.sb x2 (by omega), (hT t ht).2.eq (w1.1 62 (by decide) (by decide) (by decide) (by decide)) (w1.1 63 (by decide) (by decide) (by decide) (by decide))⟩) (hx.sb x2 (Or.inl (by omega))) (hm.eq (w1.1 58 (by decide) (by decide) (by decide) (by decide)) (w1.1 59 (by decide) (by decide) (by decide) (by decide)) (w1.1 60 (by decide) (by decide) (by decide) (by decide))) (hS.s6 x2.s6) (hS'.eq (w1.1 67 (by decide) (by decide) (by decide) (by decide)) (w1.1 68 (by decide) (by decide) (by decide) (by decide))) (by omega) (by omega)
      exact ⟨r, X', M', d1, d2, x2.tr d3, w1.tr d4, d5⟩
    rw [L_X8_laws_19, L_X9_laws_25, q3, q4, if_neg hle, if_neg hle, e_ckn _ (by omega) (by omega), n_cl (a := s0) (by omega), e_let, e_ckn _ (by omega) (by omega), n_cl (a := j) (by omega), e_let, e_ckn _ (by omega) (by omega), n_cl (a := i) (by omega), e_let, x1, e_cl, e_let, e_let, m1, e_cl]
    simp only [L_X8_laws_64, L_X9_laws_60, e_let, show nI i + (1 : Int32) = nI (i + 1) from n_add i 1, Int32.or_zero]
    by_cases c : h_fu (h_but (TT i) P k mo b f s 0) ce sz 0 = -1
    · simp only [if_pos c]; exact go _
    · simp only [if_neg c]; exact go _
theorem o_laws (fu : Nat) (hfu : 1000 ≤ fu) (a1 a2 : Int32) : sameI (f_X8_laws fu a1 a2) (f_X9_laws fu a1 a2) := by
  intro X M h
  obtain ⟨r, e1, e2, e3⟩ := s_reft fu h a1 a2
  rw [f_X8_laws, f_X9_laws, e1, e2, e_cl, e_cl]
  by_cases c : r = 0
  · obtain ⟨s0, sz, hc, j, ce, w1, w2, rfl, w4, w5, q2, h5, hj, rfl⟩ := e3 c
    obtain ⟨P, law, T, k, mo, bb, f, s, p1, p2, hl, hx, hm, -⟩ := h.hat q2 h5 hj
    obtain ⟨tc, law', r1, r2, r3, r4, r5, r6, r7⟩ := h.2.2.1
    obtain ⟨TT, hTT⟩ : ∃ TT : Nat → Nat → List Nat, ∀ t, t < tc → x_text X.1 (30 + 3 * t) (TT t) ∧ m_text M.1 t (TT t) := by
      refine ⟨fun t => if ht : t < tc then (r7 t ht).choose else fun _ => [], fun t ht => ?_⟩
      simp only [dif_pos ht]
      exact (r7 t ht).choose_spec
    rw [if_pos c, if_pos c, e_let]
    obtain ⟨r', X', M', d1, d2, d3, d4, d5⟩ := s_laws_loop fu hfu (x4 := M.1 56 12) p2 r1 (show j < 5 by omega) w1 w2 tc 0 fu 0 X M hx.1 r3 hm.1 r4 hTT hx.2.2.2 hm.2.2.2 w4 w5 (by omega) (by omega)
    exact ⟨r', X', M', d1, d2, h.sc d3.sc (d4.fin d5)⟩
  · rw [if_neg c, if_neg c]; exact ⟨_, _, _, rfl, rfl, h⟩
