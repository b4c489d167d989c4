/-! sayings over rows of their own: same, share, drop -/
theorem x_fr.sc {X X' : ow_S} (w : x_fr 3 X X') : xsc X X' := ⟨fun c hc => w.1 c (by omega) (by omega), by rw [w.1 7 (by omega) (by omega)]⟩
theorem m_fr.sc {M M' : ow_S} (w : m_fr M M') : msc M M' := ⟨fun c hc => funext fun z => w.1 c z (by omega) (by omega), fun z hz => w.1 56 z (by omega) (by omega)⟩
theorem m_fw.sc {M M' : ow_S} (w : m_fw M M') : msc M M' := ⟨fun c hc => w.1 c (by omega) (by omega) (by omega), fun z hz => w.2 z (by omega) (by omega)⟩
theorem m_ws.fw {M M' : ow_S} {l : List Int32} (h : m_ws M l) (w : m_fw M M') : m_ws M' l := ⟨(w.2 36 (by decide) (by decide)).trans h.1, fun p hp => by rw [w.1 74 (by decide) (by decide) (by decide)]; exact h.2 p hp⟩
theorem m_row.fw {M M' : ow_S} {l : List Int32} (h : m_row M l) (w : m_fw M M') : m_row M' l := ⟨(w.2 2 (by decide) (by decide)).trans h.1, h.2.1, fun p hp => by rw [w.1 57 (by decide) (by decide) (by decide)]; exact h.2.2 p hp⟩
theorem s_says2 (fu : Nat) (hfu : 1000 ≤ fu) {X M : ow_S} (h : Rl X M) {hc j r : Nat} (q2 : X.1 0 12 = nI hc) (h5 : hc ≤ 5) (hj : j < hc) (hr : r = 1 ∨ r = 3) {l : List Int32} (hl : x_row X.1 r l) (hm : m_ws M l) : ∃ v X1 M1, f_X8_saysOf fu (25 + j) r X = some (v, X1) ∧ f_X9_saysOf fu (nI j) M = some (v, M1) ∧ Rl X1 M1 ∧ x_fs X X1 ∧ m_fw M M1 := by
  obtain ⟨hc', q1, q2', q3, q4⟩ := h.2.1
  have ehc : hc' = hc := by
    rw [q2] at q2'
    exact ((n_eq (by omega) (by omega)).mp q2').symm
  subst ehc
  obtain ⟨k, mo, bb, f, s, hx, hmh, -⟩ := q4 j hj
  obtain ⟨P, l0, p1, p2, p3, p4, p5, p6, p7, p8⟩ := h.1
  obtain ⟨tc, law, r1, r2, r3, r4, r5, r6, r7⟩ := h.2.2.1
  obtain ⟨T, t1, t2⟩ := r7 law r2
  have h60 := hl.2.1
  obtain ⟨X1, a1, a2⟩ := s_X7_says fu hfu (t := 30 + 3 * law) (c := 25 + j) (r := r) (by omega) (Or.inl (by omega)) (Or.inr (by omega)) t1 hx hl (X.1 0 11)
  obtain ⟨M2, n1, n2⟩ := s_X9_saysOf fu hfu (ru := law) (h := j) (by omega) (by omega) r6 t2 hmh ⟨hm.1, h60, hm.2⟩
  refine ⟨_, X1, M2, ?_, n1, h.sc ⟨fun c hc => a2 c (by omega) (by omega), by rw [a2 7 (by omega) (by omega)]⟩ n2.sc, a2, n2⟩
  rw [f_X8_saysOf, s_law fu (by omega) r5, e_cl, a1, e_cl, p3, p4]
theorem x_row.fs {X X' : ow_S} {r : Nat} {l : List Int32} (h : x_row X.1 r l) (w : x_fs X X') (hr : r < 10) : x_row X'.1 r l := by
  unfold x_row at h ⊢; rw [w r (by omega) (by omega), w (r + 1) (by omega) (by omega)]; exact h
theorem o_same (fu : Nat) (hfu : 1000 ≤ fu) (a1 a2 : Int32) : sameI (f_X8_same fu a1 a2) (f_X9_same fu a1 a2) := by
  intro X M h
  have stop : ∀ v : Int32, ∃ r X' M', some (v, X) = some (r, X') ∧ some (v, M) = some (r, M') ∧ Rl X' M' := fun v => ⟨_, _, _, rfl, rfl, h⟩
  obtain ⟨hc, q1, q2, q3, q4, b, e1, e2, hb⟩ := s_isHead fu h.2.1 a1
  obtain ⟨P, l, p1, p2, p3, p4, p5, p6, p7, p8⟩ := h.1
  have h60 := p5.2.1
  rw [f_X8_same, f_X9_same, e1, e2, e_cl, e_cl]
  cases b with
  | false => exact stop _
  | true =>
    obtain ⟨j, hj, rfl⟩ := hb rfl
    rw [if_pos rfl, if_neg (show ¬ (1 : Int32) = 0 by decide), if_neg (show ¬ (1 : Int32) = 0 by decide), s_in, e_cl]
    by_cases d0 : a2 < 0
    · rw [if_pos d0, if_pos d0, if_pos rfl]; exact stop _
    rw [if_neg d0, if_neg d0]
    obtain ⟨w, hw, rfl⟩ := n_of d0
    have k3 : nI w ≤ (1 : Int32) ↔ w ≤ 1 := n_le (b := 1) hw (by decide)
    have k4 : (1 : Int32) < nI w ↔ 1 < w := n_lt (a := 1) (by decide) hw
    simp only [k3, k4]
    by_cases d1 : w ≤ 1
    · rw [if_pos d1, if_neg (show ¬ 1 < w by omega), if_neg (show ¬ (1 : Int32) = 0 by decide)]
      obtain ⟨X1, x1, x2, x3⟩ := s_X4_become fu hfu (r := 3) (q := 1) (by decide) (by decide) (by decide) p5
      obtain ⟨X2, y1, y2, y3⟩ := s_X4_beTurned fu hfu (r := 3) (how := w) (by omega) x2
      obtain ⟨M1, m1, m2, m3⟩ := s_X9_laysRow fu hfu (l := l) (σ := M) ⟨p6, h60, p7⟩
      have w12 := x3.tr y3
      have hR1 : Rl X2 M1 := h.sc w12.sc m3.sc
      have hq : X2.1 0 12 = nI hc := by rw [w12.1 0 (by decide) (by decide)]; exact q2
      obtain ⟨v1, X3, M2, s1, s2, s3, s4, s5⟩ := s_says2 fu hfu hR1 hq q1 hj (Or.inl rfl) (p5.keep w12 (by decide) (by decide) (by decide)) m2
      obtain ⟨M3, n1, n2, n3⟩ := s_X9_turnsOver fu hfu (how := w) (by omega) (m2.fw s5) h60
      have hR2 : Rl X3 M3 := s3.sc (xsc.rf X3) n3.sc
      obtain ⟨v2, X4, M4, u1, u2, u3, u4, u5⟩ := s_says2 fu hfu hR2 (by rw [s4 0 (by decide) (by decide)]; exact hq) q1 hj (Or.inr rfl) (y2.fs s4 (by decide)) n2
      rw [x1, e_cv, y1, e_cv, e_ckn _ (by omega) (by omega)]
      simp only [n_cl (a := j) (by omega)]
      rw [e_let, s1, e_cl, e_ckn _ (by omega) (by omega), e_let, u1, e_cl, m1, e_cv, s2, e_cl, n1, e_cv, u2, e_cl]
      by_cases e : v1 = v2
      · rw [if_pos e, if_pos e.symm]; exact ⟨_, _, _, rfl, rfl, u3⟩
      · rw [if_neg e, if_neg (fun hh => e hh.symm)]; exact ⟨_, _, _, rfl, rfl, u3⟩
    · rw [if_neg d1, if_pos (show 1 < w by omega), if_pos rfl]; exact stop _
theorem o_share (fu : Nat) (hfu : 1000 ≤ fu) (a1 a2 : Int32) : sameI (f_X8_share fu a1 a2) (f_X9_share fu a1 a2) := by
  intro X M h
  have stop : ∀ v : Int32, ∃ r X' M', some (v, X) = some (r, X') ∧ some (v, M) = some (r, M') ∧ Rl X' M' := fun v => ⟨_, _, _, rfl, rfl, h⟩
  obtain ⟨hc, q1, q2, q3, q4, b, e1, e2, hb⟩ := s_isHead fu h.2.1 a1
  obtain ⟨hc2, q1', q2', q3', q4', b', e1', e2', hb'⟩ := s_isHead fu h.2.1 a2
  obtain ⟨P, l, p1, p2, p3, p4, p5, p6, p7, p8⟩ := h.1
  have h60 := p5.2.1
  rw [f_X8_share, f_X9_share, e1, e2, e_cl, e_cl]
  cases b with
  | false => exact stop _
  | true =>
    obtain ⟨j, hj, rfl⟩ := hb rfl
    rw [if_pos rfl, if_neg (show ¬ (1 : Int32) = 0 by decide), if_neg (show ¬ (1 : Int32) = 0 by decide), e1', e2', e_cl, e_cl]
    cases b' with
    | false => exact stop _
    | true =>
      obtain ⟨j', hj', rfl⟩ := hb' rfl
      have ehc : hc2 = hc := by
        rw [q2] at q2'
        exact ((n_eq (by omega) (by omega)).mp q2').symm
      subst ehc
      rw [if_pos rfl, if_neg (show ¬ (1 : Int32) = 0 by decide), if_neg (show ¬ (1 : Int32) = 0 by decide)]
      obtain ⟨X1, x1, x2, x3⟩ := s_X4_becomeEverySecond fu hfu (r := 3) (q := 1) (f := 0) (by decide) (by decide) (by decide) (by decide) p5
      obtain ⟨M1, m1, m2, m3⟩ := s_X9_laysHalf fu hfu (f := 0) (by decide) (l := l) (σ := M) ⟨p6, h60, p7⟩
      have hR1 : Rl X1 M1 := h.sc x3.sc m3.sc
      have hq : X1.1 0 12 = nI hc2 := by rw [x3.1 0 (by decide) (by decide)]; exact q2
      obtain ⟨v1, X2, M2, s1, s2, s3, s4, s5⟩ := s_says2 fu hfu hR1 hq q1 hj (Or.inr rfl) x2 m2
      obtain ⟨X3, y1, y2, y3⟩ := s_X4_becomeEverySecond fu hfu (r := 3) (q := 1) (f := 1) (by decide) (by decide) (by decide) (by decide) ((p5.keep x3 (by decide) (by decide) (by decide)).fs s4 (by decide))
      obtain ⟨M3, n1, n2, n3⟩ := s_X9_laysHalf fu hfu (f := 1) (by decide) (l := l) (σ := M2) ((m3.row ⟨p6, h60, p7⟩).fw s5)
      have hR2 : Rl X3 M3 := s3.sc y3.sc n3.sc
      obtain ⟨v2, X4, M4, u1, u2, u3, u4, u5⟩ := s_says2 fu hfu hR2 (by rw [y3.1 0 (by decide) (by decide), s4 0 (by decide) (by decide)]; exact hq) q1 hj' (Or.inr rfl) y2 n2
      rw [show nI 0 = (0 : Int32) from rfl] at x1 m1
      rw [show nI 1 = (1 : Int32) from rfl] at y1 n1
      rw [x1, e_cv, e_ckn _ (by omega) (by omega), n_cl (a := j) (by omega), e_let, s1, e_cl, y1, e_cv, e_ckn _ (by omega) (by omega), n_cl (a := j') (by omega), e_let, u1, e_cl, m1, e_cv, s2, e_cl, n1, e_cv, u2, e_cl]
      exact ⟨_, _, _, rfl, rfl, u3⟩
theorem s_drop_loop (fu : Nat) (hfu : 1000 ≤ fu) {hc j : Nat} (h5 : hc ≤ 5) (hj : j < hc) {l : List Int32} (x2 : Int32) : ∀ (q i fn : Nat) (x3 x4 : Int32) (X M : ow_S), Rl X M → X.1 0 12 = nI hc → x_row X.1 1 l → m_row M l → i + q = l.length → q < fn → ∃ r X' M', L_X8_drop_34 fu fn (nI j) x2 x3 x4 (nI i) X = some (r, X') ∧ L_X9_drop_33 fu fn (nI j) x2 x3 x4 (nI i) M = some (r, M') ∧ Rl X' M' := by
  intro q
  induction q with
  | zero =>
    intro i fn x3 x4 X M h q2 hx hm hi hf
    obtain ⟨fn, rfl⟩ : ∃ q, fn = q + 1 := ⟨fn - 1, by omega⟩
    have h60 := hx.2.1
    have hle : nI l.length ≤ nI i := by rw [n_le (by omega) (by omega)]; omega
    rw [L_X8_drop_34, L_X9_drop_33, show X.1 1 1 = nI l.length from hx.1, hm.1, if_pos hle, if_pos hle]
    by_cases c : x2 = 0
    · rw [if_pos c, if_pos c]; exact ⟨_, _, _, rfl, rfl, h⟩
    · rw [if_neg c, if_neg c]; exact ⟨_, _, _, rfl, rfl, h⟩
  | succ q ih =>
    intro i fn x3 x4 X M h q2 hx hm hi hf
    obtain ⟨fn, rfl⟩ : ∃ q, fn = q + 1 := ⟨fn - 1, by omega⟩
    have h60 := hx.2.1
    have hle : ¬ nI l.length ≤ nI i := by rw [n_le (by omega) (by omega)]; omega
    obtain ⟨X1, x1, x2', x3'⟩ := s_X4_becomeWithout fu hfu (r := 3) (q := 1) (f := i) (by omega) (by decide) (by decide) (by decide) hx
    obtain ⟨M1, m1, m2, m3⟩ := s_X9_laysWithout fu hfu (f := i) (by omega) hm
    have hR1 : Rl X1 M1 := h.sc x3'.sc m3.sc
    have hq : X1.1 0 12 = nI hc := by rw [x3'.1 0 (by decide) (by decide)]; exact q2
    obtain ⟨v, X2, M2, s1, s2, s3, s4, s5⟩ := s_says2 fu hfu hR1 hq h5 hj (Or.inr rfl) x2' m2
    have go : ∀ y3 y4 : Int32, ∃ r X' M', L_X8_drop_34 fu fn (nI j) x2 y3 y4 (nI (i + 1)) X2 = some (r, X') ∧ L_X9_drop_33 fu fn (nI j) x2 y3 y4 (nI (i + 1)) M2 = some (r, M') ∧ Rl X' M' := fun y3 y4 => ih (i + 1) fn y3 y4 X2 M2 s3 (by rw [s4 0 (by decide) (by decide)]; exact hq) ((hx.keep x3' (by decide) (by decide) (by decide)).fs s4 (by decide)) ((m3.row hm).fw s5) (by omega) (by omega)
    rw [L_X8_drop_34, L_X9_drop_33, show X.1 1 1 = nI l.length from hx.1, hm.1, if_neg hle, if_neg hle, x1, e_cv, e_ckn _ (by omega) (by omega), n_cl (a := j) (by omega), e_let, s1, e_cl, m1, e_cv, s2, e_cl]
    simp only [L_X8_drop_87, L_X8_drop_94, L_X9_drop_67, L_X9_drop_72, L_X9_drop_85, L_X9_drop_98, e_let, show nI i + (1 : Int32) = nI (i + 1) from n_add i 1, show ¬ (1 : Int32) = 0 by decide, if_false, if_true]
    by_cases c : x3 = -1
    · simp only [if_pos c]; exact go _ _
    · simp only [if_neg c]
      by_cases c2 : v ≤ x4
      · simp only [if_pos c2]; exact go _ _
      · simp only [if_neg c2]; exact go _ _
theorem o_drop (fu : Nat) (hfu : 1000 ≤ fu) (a1 a2 : Int32) : sameI (f_X8_drop fu a1 a2) (f_X9_drop fu a1 a2) := by
  intro X M h
  have stop : ∀ v : Int32, ∃ r X' M', some (v, X) = some (r, X') ∧ some (v, M) = some (r, M') ∧ Rl X' M' := fun v => ⟨_, _, _, rfl, rfl, h⟩
  obtain ⟨hc, q1, q2, q3, q4, b, e1, e2, hb⟩ := s_isHead fu h.2.1 a1
  obtain ⟨P, l, p1, p2, p3, p4, p5, p6, p7, p8⟩ := h.1
  have h60 := p5.2.1
  rw [f_X8_drop, f_X9_drop, e1, e2, e_cl, e_cl]
  cases b with
  | false => exact stop _
  | true =>
    obtain ⟨j, hj, rfl⟩ := hb rfl
    rw [if_pos rfl, if_neg (show ¬ (1 : Int32) = 0 by decide), if_neg (show ¬ (1 : Int32) = 0 by decide), s_in, e_cl]
    by_cases d0 : a2 < 0
    · rw [if_pos d0, if_pos d0, if_pos rfl]; exact stop _
    rw [if_neg d0, if_neg d0]
    obtain ⟨w, hw, rfl⟩ := n_of d0
    have k3 : nI w ≤ (1 : Int32) ↔ w ≤ 1 := n_le (b := 1) hw (by decide)
    have k4 : (1 : Int32) < nI w ↔ 1 < w := n_lt (a := 1) (by decide) hw
    simp only [k3, k4]
    by_cases d1 : w ≤ 1
    · rw [if_pos d1, if_neg (show ¬ 1 < w by omega), if_neg (show ¬ (1 : Int32) = 0 by decide)]
      exact s_drop_loop fu hfu q1 hj (nI w) l.length 0 fu (-1) (-1000000) X M h q2 p5 ⟨p6, h60, p7⟩ (by omega) (by omega)
    · rw [if_neg d1, if_pos (show 1 < w by omega), if_pos rfl]; exact stop _
