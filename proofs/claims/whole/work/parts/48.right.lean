/-! sayings of all cards but one: right -/
def xsb (X X' : ow_S) : Prop := ∀ c, c ≠ 3 → c ≠ 4 → c ≠ 11 → c ≠ 12 → X'.1 c = X.1 c
def msb (M M' : ow_S) : Prop := (∀ c, c ≠ 72 → c ≠ 73 → c ≠ 74 → c ≠ 56 → M'.1 c = M.1 c) ∧ ∀ z, z ≠ 36 → z ≠ 37 → z ≠ 38 → M'.1 56 z = M.1 56 z
theorem xsb.rf (X : ow_S) : xsb X X := fun _ _ _ _ _ => rfl
theorem msb.rf (M : ow_S) : msb M M := ⟨fun _ _ _ _ _ => rfl, fun _ _ _ _ => rfl⟩
theorem xsb.tr {a b c : ow_S} (p : xsb a b) (q : xsb b c) : xsb a c := fun k h1 h2 h3 h4 => (q k h1 h2 h3 h4).trans (p k h1 h2 h3 h4)
theorem msb.tr {a b c : ow_S} (p : msb a b) (q : msb b c) : msb a c := ⟨fun k h1 h2 h3 h4 => (q.1 k h1 h2 h3 h4).trans (p.1 k h1 h2 h3 h4), fun z h1 h2 h3 => (q.2 z h1 h2 h3).trans (p.2 z h1 h2 h3)⟩
theorem xsb.sc {X X' : ow_S} (w : xsb X X') : xsc X X' := ⟨fun c hc => w c (by omega) (by omega) (by omega) (by omega), by rw [w 7 (by omega) (by omega) (by omega) (by omega)]⟩
theorem msb.sc {M M' : ow_S} (w : msb M M') : msc M M' := ⟨fun c hc => w.1 c (by omega) (by omega) (by omega) (by omega), fun z hz => w.2 z (by omega) (by omega) (by omega)⟩
theorem m_fr.sb {M M' : ow_S} (w : m_fr M M') : msb M M' := ⟨fun c h1 h2 h3 h4 => funext fun z => w.1 c z (by omega) (by omega), fun z h1 h2 h3 => w.1 56 z (by omega) (by omega)⟩
theorem m_fw.sb {M M' : ow_S} (w : m_fw M M') : msb M M' := ⟨fun c h1 h2 h3 h4 => w.1 c (by omega) (by omega) (by omega), fun z h1 h2 h3 => w.2 z (by omega) (by omega)⟩
theorem x_head.sb {X X' : ow_S} {c k mo : Nat} {b f s : Int32} (h : x_head X.1 c k mo b f s) (w : xsb X X') (hc : 12 < c ∨ c = 6) : x_head X'.1 c k mo b f s := by
  unfold x_head at h ⊢; rw [w c (by omega) (by omega) (by omega) (by omega)]; exact h
theorem x_text.sb {X X' : ow_S} {t : Nat} {T : Nat → List Nat} (h : x_text X.1 t T) (w : xsb X X') (ht : 12 < t) : x_text X'.1 t T := h.fr (w _ (by omega) (by omega) (by omega) (by omega)) (w _ (by omega) (by omega) (by omega) (by omega)) (w _ (by omega) (by omega) (by omega) (by omega))
theorem m_head.sb {M M' : ow_S} {h k mo : Nat} {b f s : Int32} (hh : m_head M.1 h k mo b f s) (w : msb M M') : m_head M'.1 h k mo b f s := by
  unfold m_head at hh ⊢
  rw [w.1 58 (by decide) (by decide) (by decide) (by decide), w.1 59 (by decide) (by decide) (by decide) (by decide), w.1 60 (by decide) (by decide) (by decide) (by decide)]; exact hh
theorem m_text.sb {M M' : ow_S} {t : Nat} {T : Nat → List Nat} (h : m_text M.1 t T) (w : msb M M') : m_text M'.1 t T := by
  unfold m_text at h ⊢
  rw [w.1 62 (by decide) (by decide) (by decide) (by decide), w.1 63 (by decide) (by decide) (by decide) (by decide)]; exact h
/-- what head and law say of all cards but i -/
def h_but (T : Nat → List Nat) (P k mo : Nat) (b f s way : Int32) (i : Nat) : Int32 := h_say T (nI P) k mo b f s (l_but P (nI i) way)
theorem s_X8_saysBut (fu : Nat) (hfu : 1000 ≤ fu) {X : ow_S} {P t c k mo i : Nat} {b f s way : Int32} {T : Nat → List Nat} (hP : P ≤ 52) (p3 : X.1 0 11 = nI P) (ht : 12 < t) (hc : 12 < c ∨ c = 6) (hT : x_text X.1 t T) (hH : x_head X.1 c k mo b f s) : ∃ X', f_X8_saysBut fu (nI i) way c t X = some (h_but T P k mo b f s way i, X') ∧ xsb X X' := by
  obtain ⟨X1, x1, x2, x3⟩ := s_X4_becomeAllBut fu hfu (r := 3) hP (nI i) way X
  have w : xsb X X1 := fun c h1 h2 _ _ => x3.1 c h1 h2
  have p3' : X1.1 0 11 = nI P := by rw [x3.1 0 (by decide) (by decide)]; exact p3
  obtain ⟨X2, y1, y2⟩ := s_X7_says fu hfu (r := 3) ht hc (Or.inr (by decide)) (hT.sb w ht) (hH.sb w hc) x2 (nI P)
  refine ⟨X2, ?_, w.tr (fun c h1 h2 h3 h4 => y2 c h3 h4)⟩
  rw [f_X8_saysBut, p3, x1, e_cv, p3', y1, e_cl]; rfl
theorem s_X9_saysBut (fu : Nat) (hfu : 1000 ≤ fu) {M : ow_S} {P ru h k mo i : Nat} {b f s way : Int32} {T : Nat → List Nat} (hP : P ≤ 52) (p4 : M.1 56 0 = nI P) (hru : ru < 6) (h5 : h < 5) (hR : M.1 56 12 = nI ru) (hT : m_text M.1 ru T) (hH : m_head M.1 h k mo b f s) : ∃ M1 M2, f_X9_laysBut fu (nI i) way M = some M1 ∧ f_X9_saysOf fu (nI h) M1 = some (h_but T P k mo b f s way i, M2) ∧ msb M M2 := by
  obtain ⟨M1, m1, m2, m3⟩ := s_X9_laysBut fu hfu hP (nI i) way p4
  have hlen := l_but_len P (nI i) way
  obtain ⟨M2, n1, n2⟩ := s_X9_saysOf fu hfu hru h5 ((m3.1 56 12 (by omega) (by omega)).trans hR) (hT.sb m3.sb) (hH.sb m3.sb) ⟨m2.1, by omega, m2.2⟩
  refine ⟨M1, M2, m1, ?_, m3.sb.tr n2.sb⟩
  rw [n1, m3.1 56 0 (by omega) (by omega), p4]; rfl
/-- the bits of the cards told right -/
def h_rb (sv : Nat → Int32) : Nat → Nat → Int64 → Int64
  | 0, _, x => x
  | q + 1, i, x => h_rb sv q (i + 1) (if sv i = nI i then x ||| ((1 : Int64) <<< ((nI i - (1 : Int32)).toInt64 &&& 63)) else x)
theorem s_X9_rightOf_loop (fu : Nat) (hfu : 1000 ≤ fu) {P ru h k mo : Nat} {b f s way : Int32} {T : Nat → List Nat} (hP : P ≤ 52) (hru : ru < 6) (h5 : h < 5) : ∀ (q i fn : Nat) (x : Int64) (M : ow_S), M.1 56 0 = nI P → M.1 56 12 = nI ru → m_text M.1 ru T → m_head M.1 h k mo b f s → i + q = P + 1 → q < fn → ∃ M', L_X9_rightOf_5 fu fn (nI h) way x (nI i) M = some (h_rb (h_but T P k mo b f s way) q i x, M') ∧ msb M M' := by
  intro q
  induction q with
  | zero =>
    intro i fn x M p4 hR hT hH hi hf
    obtain ⟨fn, rfl⟩ : ∃ q, fn = q + 1 := ⟨fn - 1, by omega⟩
    refine ⟨M, ?_, msb.rf M⟩
    rw [L_X9_rightOf_5, p4, if_pos (by rw [n_lt (by omega) (by omega)]; omega)]; rfl
  | succ q ih =>
    intro i fn x M p4 hR hT hH hi hf
    obtain ⟨fn, rfl⟩ : ∃ q, fn = q + 1 := ⟨fn - 1, by omega⟩
    obtain ⟨M1, M2, m1, m2, m3⟩ := s_X9_saysBut fu hfu (i := i) (way := way) hP p4 hru h5 hR hT hH
    have go : ∀ y : Int64, ∃ M', L_X9_rightOf_5 fu fn (nI h) way y (nI (i + 1)) M2 = some (h_rb (h_but T P k mo b f s way) q (i + 1) y, M') ∧ msb M M' := by
      intro y
      obtain ⟨M', r1, r2⟩ := ih (i + 1) fn y M2 ((m3.2 0 (by decide) (by decide) (by decide)).trans p4) ((m3.2 12 (by decide) (by decide) (by decide)).trans hR) (hT.sb m3) (hH.sb m3) (by omega) (by omega)
      exact ⟨M', r1, m3.tr r2⟩
    rw [L_X9_rightOf_5, p4, if_neg (by rw [n_lt (by omega) (by omega)]; omega), m1, e_cv, m2, e_cl, h_rb]
    simp only [L_X9_rightOf_42, e_let, show nI i + (1 : Int32) = nI (i + 1) from n_add i 1, Int64.or_zero]
    by_cases c : h_but T P k mo b f s way i = nI i
    · rw [if_pos c, if_pos c]; exact go _
    · rw [if_neg c, if_neg c]; exact go _
theorem s_X8_right_loop (fu : Nat) (hfu : 1000 ≤ fu) {P law j k mo : Nat} {b f s way : Int32} {T : Nat → List Nat} (hP : P ≤ 52) (hl : law < 6) (h5 : j < 5) : ∀ (q i fn : Nat) (x : Int64) (X : ow_S), X.1 0 11 = nI P → X.1 0 14 = nI law → x_text X.1 (30 + 3 * law) T → x_head X.1 (25 + j) k mo b f s → i + q = P + 1 → q < fn → ∃ X', L_X8_right_24 fu fn (nI j) way x (nI i) X = some (h_rb (h_but T P k mo b f s way) q i x, X') ∧ xsb X X' := by
  intro q
  induction q with
  | zero =>
    intro i fn x X p3 hR hT hH hi hf
    obtain ⟨fn, rfl⟩ : ∃ q, fn = q + 1 := ⟨fn - 1, by omega⟩
    refine ⟨X, ?_, xsb.rf X⟩
    rw [L_X8_right_24, p3, if_pos (by rw [n_lt (by omega) (by omega)]; omega)]; rfl
  | succ q ih =>
    intro i fn x X p3 hR hT hH hi hf
    obtain ⟨fn, rfl⟩ : ∃ q, fn = q + 1 := ⟨fn - 1, by omega⟩
    obtain ⟨X1, x1, x2⟩ := s_X8_saysBut fu hfu (i := i) (way := way) (c := 25 + j) (t := 30 + 3 * law) hP p3 (by omega) (Or.inl (by omega)) hT hH
    have e0 : X1.1 0 = X.1 0 := x2 0 (by decide) (by decide) (by decide) (by decide)
    have go : ∀ y : Int64, ∃ X', L_X8_right_24 fu fn (nI j) way y (nI (i + 1)) X1 = some (h_rb (h_but T P k mo b f s way) q (i + 1) y, X') ∧ xsb X X' := by
      intro y
      obtain ⟨X', r1, r2⟩ := ih (i + 1) fn y X1 (by rw [e0]; exact p3) (by rw [e0]; exact hR) (hT.sb x2 (by omega)) (hH.sb x2 (Or.inl (by omega))) (by omega) (by omega)
      exact ⟨X', r1, x2.tr r2⟩
    rw [L_X8_right_24, p3, if_neg (by rw [n_lt (by omega) (by omega)]; omega), e_ckn _ (by omega) (by omega), n_cl (a := j) (by omega), e_let, s_law fu hl hR, e_cl, x1, e_cl, h_rb]
    simp only [L_X8_right_64, e_let, show nI i + (1 : Int32) = nI (i + 1) from n_add i 1]
    by_cases c : h_but T P k mo b f s way i = nI i
    · rw [if_pos c, if_pos c]; exact go _
    · rw [if_neg c, if_neg c]; exact go _
def sameL (f g : ow_S → Option (Int64 × ow_S)) : Prop := ∀ X M, Rl X M → ∃ r X' M', f X = some (r, X') ∧ g M = some (r, M') ∧ Rl X' M'
theorem s_isWay (fu : Nat) (way : Int32) (X : ow_S) : f_X8_isWay fu way X = some (inb way 0 1, X) := by
  unfold inb
  rw [f_X8_isWay, L_X8_isWay_9]
  by_cases c0 : way < 0
  · rw [if_pos c0, if_neg (fun h => by rw [h] at c0; exact absurd c0 (by decide)), if_neg (fun h => by rw [h] at c0; exact absurd c0 (by decide))]
  · rw [if_neg c0]
    obtain ⟨j, hj, rfl⟩ := n_of c0
    have e0 : nI j = (0 : Int32) ↔ j = 0 := n_eq (b := 0) hj (by decide)
    have e1 : nI j = (1 : Int32) ↔ j = 1 := n_eq (b := 1) hj (by decide)
    have e2 : (1 : Int32) < nI j ↔ 1 < j := n_lt (a := 1) (by decide) hj
    simp only [e0, e1, e2]
    rcases (show j = 0 ∨ j = 1 ∨ 1 < j by omega) with c | c | c
    · rw [if_pos c, if_neg (by omega)]
    · rw [if_neg (by omega), if_pos c, if_neg (by omega)]
    · rw [if_neg (by omega), if_neg (by omega), if_pos c]
theorem o_right (fu : Nat) (hfu : 1000 ≤ fu) (a1 a2 : Int32) : sameL (f_X8_right fu a1 a2) (f_X9_right fu a1 a2) := by
  intro X M h
  have stop : ∀ v : Int64, ∃ r X' M', some (v, X) = some (r, X') ∧ some (v, M) = some (r, M') ∧ Rl X' M' := fun v => ⟨_, _, _, rfl, rfl, h⟩
  obtain ⟨hc, q1, q2, q3, q4, b, e1, e2, hb⟩ := s_isHead fu h.2.1 a1
  obtain ⟨P, l, p1, p2, p3, p4, p5, p6, p7, p8⟩ := h.1
  obtain ⟨tc, law, r1, r2, r3, r4, r5, r6, r7⟩ := h.2.2.1
  obtain ⟨T, t1, t2⟩ := r7 law r2
  rw [f_X8_right, f_X9_right, e1, e2, e_cl, e_cl]
  cases b with
  | false => exact stop _
  | true =>
    obtain ⟨j, hj, rfl⟩ := hb rfl
    obtain ⟨k, mo, bb, f, s, hx, hm, -⟩ := q4 j hj
    rw [if_pos rfl, if_neg (show ¬ (1 : Int32) = 0 by decide), if_neg (show ¬ (1 : Int32) = 0 by decide), s_isWay, s_inb, e_cl, e_cl]
    by_cases c : inb a2 0 1 = 0
    · rw [if_pos c, if_pos c]; exact stop _
    · rw [if_neg c, if_neg c]
      obtain ⟨X1, x1, x2⟩ := s_X8_right_loop fu hfu (way := a2) p2 (by omega) (by omega) P 1 fu 0 X p3 r5 t1 hx (by omega) (by omega)
      obtain ⟨M1, m1, m2⟩ := s_X9_rightOf_loop fu hfu (way := a2) p2 (by omega) (by omega) P 1 fu 0 M p4 r6 t2 hm (by omega) (by omega)
      rw [e_let, f_X9_rightOf, e_let, show (1 : Int32) = nI 1 from rfl, x1, m1, e_cl]
      exact ⟨_, _, _, rfl, rfl, h.sc x2.sc m2.sc⟩
