/-! set, keep -/
/-- one of a head's three numbers changes -/
theorem Rl.set {X M : ow_S} (h : Rl X M) {hc j v w : Nat} (q2 : X.1 0 12 = nI hc) (h5 : hc ≤ 5) (hj : j < hc) (hv : v < 3) (hw : (v = 0 → 1 ≤ w ∧ w ≤ 16) ∧ w < 65536) : Rl (ow_sI X (25 + j) (2 + v) (nI w)) (ow_sI M 60 (3 * j + v) (nI w)) := by
  obtain ⟨hc', q1, q2', q3, q4⟩ := h.2.1
  have ehc : hc' = hc := by
    rw [q2] at q2'
    exact ((n_eq (by omega) (by omega)).mp q2').symm
  subst ehc
  refine h.head (fun c h1 h2 => g_k _ _ (by omega)) (fun z hz => by rw [g_k _ _ (show 0 ≠ 25 + j by omega)]) (fun c h1 h2 h3 h4 => g_k _ _ h4) (fun z hz => by rw [g_k _ _ (show 56 ≠ 60 by decide)]) ⟨hc', q1, by rw [g_k _ _ (show 0 ≠ 25 + j by omega)]; exact q2, by rw [g_k _ _ (show 56 ≠ 60 by decide)]; exact q3, fun i hi => ?_⟩ (h.2.2.2.2.2.2.fr (by rw [g_k _ _ (show 0 ≠ 25 + j by omega)]) (by rw [g_k _ _ (show 0 ≠ 25 + j by omega)]) (fun c _ _ => g_k _ _ (by omega)) (fun c _ _ => ?_) (fun z _ _ => by rw [g_k _ _ (show 56 ≠ 60 by decide)]) (g_k _ _ (by decide)) (g_k _ _ (by decide)))
  · obtain ⟨k, mo, bb, ff, ss, hx, hm, hr⟩ := q4 i hi
    by_cases e : i = j
    · subst e
      obtain ⟨x0, x1, x2, x3, x4, x5⟩ := hx
      obtain ⟨y0, y1, y2, y3, y4, y5⟩ := hm
      rcases (show v = 0 ∨ v = 1 ∨ v = 2 by omega) with rfl | rfl | rfl
      · refine ⟨k, mo, w, ff, ss, ⟨?_, ?_, ?_, ?_, ?_, x5⟩, ⟨?_, ?_, ?_, ?_, ?_, y5⟩, (hw.1 rfl).1, (hw.1 rfl).2, hr.2.2⟩
        · rw [g_j _ _ (by omega)]; exact x0
        · rw [g_j _ _ (by omega)]; exact x1
        · exact g_same _ _ _ _
        · rw [g_j _ _ (by omega)]; exact x3
        · rw [g_j _ _ (by omega)]; exact x4
        · rw [g_k _ _ (by decide)]; exact y0
        · rw [g_k _ _ (by decide)]; exact y1
        · exact g_same _ _ _ _
        · rw [g_j _ _ (by omega)]; exact y3
        · rw [g_j _ _ (by omega)]; exact y4
      · refine ⟨k, mo, bb, w, ss, ⟨?_, ?_, ?_, ?_, ?_, x5⟩, ⟨?_, ?_, ?_, ?_, ?_, y5⟩, hr.1, hr.2.1, hw.2, hr.2.2.2⟩
        · rw [g_j _ _ (by omega)]; exact x0
        · rw [g_j _ _ (by omega)]; exact x1
        · rw [g_j _ _ (by omega)]; exact x2
        · exact g_same _ _ _ _
        · rw [g_j _ _ (by omega)]; exact x4
        · rw [g_k _ _ (by decide)]; exact y0
        · rw [g_k _ _ (by decide)]; exact y1
        · rw [g_j _ _ (by omega)]; exact y2
        · exact g_same _ _ _ _
        · rw [g_j _ _ (by omega)]; exact y4
      · refine ⟨k, mo, bb, ff, w, ⟨?_, ?_, ?_, ?_, ?_, x5⟩, ⟨?_, ?_, ?_, ?_, ?_, y5⟩, hr.1, hr.2.1, hr.2.2.1, hw.2⟩
        · rw [g_j _ _ (by omega)]; exact x0
        · rw [g_j _ _ (by omega)]; exact x1
        · rw [g_j _ _ (by omega)]; exact x2
        · rw [g_j _ _ (by omega)]; exact x3
        · exact g_same _ _ _ _
        · rw [g_k _ _ (by decide)]; exact y0
        · rw [g_k _ _ (by decide)]; exact y1
        · rw [g_j _ _ (by omega)]; exact y2
        · rw [g_j _ _ (by omega)]; exact y3
        · exact g_same _ _ _ _
    · refine ⟨k, mo, bb, ff, ss, ?_, ?_, hr⟩
      · unfold x_head at hx ⊢
        rw [g_k _ _ (show 25 + i ≠ 25 + j by omega)]; exact hx
      · unfold m_head at hm ⊢
        rw [g_k _ _ (show 58 ≠ 60 by decide), g_k _ _ (show 59 ≠ 60 by decide), g_j _ _ (show 3 * i ≠ 3 * j + v by omega), g_j _ _ (show 3 * i + 1 ≠ 3 * j + v by omega), g_j _ _ (show 3 * i + 2 ≠ 3 * j + v by omega)]; exact hm
  · by_cases e : c = 25 + j
    · subst e; exact ⟨g_j _ _ (by omega), g_j _ _ (by omega)⟩
    · rw [g_k _ _ e]; exact ⟨rfl, rfl⟩
theorem o_set (fu : Nat) (a1 a2 a3 : Int32) : sameI (f_X8_set fu a1 a2 a3) (f_X9_set fu a1 a2 a3) := by
  intro X M h
  have stop : ∀ v : Int32, ∃ r X' M', some (v, X) = some (r, X') ∧ some (v, M) = some (r, M') ∧ Rl X' M' := fun v => ⟨_, _, _, rfl, rfl, h⟩
  obtain ⟨hc, q1, q2, q3, q4, b, e1, e2, hb⟩ := s_isHead fu h.2.1 a1
  rw [f_X8_set, f_X9_set, e1, e2, e_cl, e_cl]
  cases b with
  | false => exact stop _
  | true =>
    obtain ⟨j, hj, rfl⟩ := hb rfl
    rw [if_pos rfl, if_neg (show ¬ (1 : Int32) = 0 by decide), if_neg (show ¬ (1 : Int32) = 0 by decide)]
    simp only [s_isBits, s_isNumber, s_inb, e_cl, L_X9_set_30, L_X9_set_41]
    rcases inb_cases (v := a2) (a := 0) (b := 2) (by decide) (by decide) with i2 | ⟨i2, v, v1, v2, rfl⟩
    · rw [show inb a2 0 2 = 0 from i2, if_pos rfl]
      by_cases c0 : a2 < 0
      · rw [if_pos c0]; exact stop _
      · rw [if_neg c0]
        unfold inb at i2
        rw [if_neg (show ¬ a2 < nI 0 from c0)] at i2
        by_cases c : nI 2 < a2
        · rw [if_pos (show (2 : Int32) < a2 from c)]; exact stop _
        · rw [if_neg c] at i2; exact absurd i2 (by decide)
    rw [show inb (nI v) 0 2 = 1 from i2, if_neg (nI_pos (by omega)), if_neg (by rw [show (2 : Int32) = nI 2 from rfl, n_lt (by decide) (by omega)]; omega), if_neg (show ¬ (1 : Int32) = 0 by decide)]
    have k0 : nI v = (0 : Int32) ↔ v = 0 := n_eq (b := 0) (by omega) (by decide)
    have k1 : nI v = (1 : Int32) ↔ v = 1 := n_eq (b := 1) (by omega) (by decide)
    obtain ⟨k, mo, bb, ff, ss, ⟨x0, x1, x2, x3, x4, -⟩, ⟨y0, y1, y2, y3, y4, -⟩, -⟩ := q4 j hj
    have old : X.1 (25 + j) (2 + v) = M.1 60 (3 * j + v) := by
      rcases (show v = 0 ∨ v = 1 ∨ v = 2 by omega) with rfl | rfl | rfl
      · exact x2.trans y2.symm
      · exact x3.trans y3.symm
      · exact x4.trans y4.symm
    have told : f_X8_told fu (nI j) (nI v + (2 : Int32)) X = some (X.1 (25 + j) (2 + v), X) := by
      rw [show nI v + (2 : Int32) = nI (v + 2) from n_add v 2, f_X8_told, e1, e_cl, if_pos rfl, if_neg (show ¬ (1 : Int32) = 0 by decide), e_ckn _ (by omega) (by omega), n_cl (a := j) (by omega), e_let]
      rcases (show v = 0 ∨ v = 1 ∨ v = 2 by omega) with rfl | rfl | rfl <;> rfl
    have go : ∀ w : Nat, ((v = 0 → 1 ≤ w ∧ w ≤ 16) ∧ w < 65536) → ∃ r X' M', L_X8_set_44 fu (nI j) (nI v) (nI w) X = some (r, X') ∧ (ow_ck (ow_bd (((3 : Int32) * nI j) + nI v) 15) <| ow_let (M.1 60 (((3 : Int32) * nI j) + nI v).toNatClampNeg) <| fun x4_60 => ow_ck (ow_bd (((3 : Int32) * nI j) + nI v) 15) <| ow_let (ow_sI M 60 ((((3 : Int32) * nI j) + nI v).toNatClampNeg) (nI w)) <| fun σ_72 => some (x4_60, σ_72)) = some (r, M') ∧ Rl X' M' := by
      intro w hw
      refine ⟨X.1 (25 + j) (2 + v), _, _, ?_, ?_, h.set q2 q1 hj (by omega) hw⟩
      · rw [L_X8_set_44, told, e_ckn _ (by omega) (by omega), n_cl (a := j) (by omega), e_let, e_cl]
        simp only [k0, k1, e_let]
        rcases (show v = 0 ∨ v = 1 ∨ v = 2 by omega) with rfl | rfl | rfl <;> rfl
      · rw [show (3 : Int32) = nI 3 from rfl, n_mul, n_add, e_ckn _ (by omega) (by omega), e_let, e_ckn _ (by omega) (by omega), n_cl (a := 3 * j + v) (by omega), e_let, old]
    simp only [k0]
    by_cases c : v = 0
    · simp only [if_pos c]
      rcases inb_cases (v := a3) (a := 1) (b := 16) (by decide) (by decide) with i3 | ⟨i3, w, w1, w2, rfl⟩
      · rw [show inb a3 1 16 = 0 from i3, if_pos rfl, if_pos rfl]; exact stop _
      · rw [show inb (nI w) 1 16 = 1 from i3, if_neg (show ¬ (1 : Int32) = 0 by decide), if_neg (show ¬ (1 : Int32) = 0 by decide)]
        exact go w ⟨fun _ => ⟨w1, w2⟩, by omega⟩
    · simp only [if_neg c]
      rcases inb_cases (v := a3) (a := 0) (b := 65535) (by decide) (by decide) with i3 | ⟨i3, w, w1, w2, rfl⟩
      · rw [show inb a3 0 65535 = 0 from i3, if_pos rfl, if_pos rfl]; exact stop _
      · rw [show inb (nI w) 0 65535 = 1 from i3, if_neg (show ¬ (1 : Int32) = 0 by decide), if_neg (show ¬ (1 : Int32) = 0 by decide)]
        exact go w ⟨fun h => absurd h c, by omega⟩
theorem s_keep_loop (fu : Nat) (hfu : 1000 ≤ fu) {t c k mo m : Nat} {b f s x3 : Int32} {T : Nat → List Nat} (ht : 12 < t) (hc : 12 < c) {l : List Int32} (hm : m ≤ l.length) : ∀ (q g fn : Nat) (σ : ow_S), σ.2.2 10 2 = some t → x_text σ.1 t T → x_head σ.1 c k mo b f s → σ.1 11 5 = nI mo → x_row σ.1 1 l → g + q = h_times k mo → q < fn → ∃ r σ', L_X8_keep_66 fu fn (nI m) x3 c (nI g) σ = some (r, σ') ∧ x_fw σ σ' ∧ r = (if x3 = 0 then (h_go T (σ.1 11 4) k mo b (l.take m) 0 (h_many T (σ.1 11 4) k mo b l q (σ.1 11 0, σ.1 11 1))).1 else (h_go T (σ.1 11 4) k mo b (l.take m) 0 (h_many T (σ.1 11 4) k mo b l q (σ.1 11 0, σ.1 11 1))).2) := by
  intro q
  induction q with
  | zero =>
    intro g fn σ hR hT hH h5 hl hg hf
    obtain ⟨fn, rfl⟩ : ∃ q, fn = q + 1 := ⟨fn - 1, by omega⟩
    obtain ⟨σ1, a1, a2, a3, a4, a5⟩ := s_X7_goAlong fu hfu ht (Or.inl hc) (Or.inr (by decide : 1 < 10)) hR hT hH h5 hl hm
    have ht10 : h_times k mo < 10 := by have := hH.2.2.2.2.2.2; unfold h_times; split <;> omega
    rw [L_X8_keep_66, s_X0_goings fu hH, e_cl, if_pos (by rw [n_le (by omega) (by omega)]; omega), a1, e_cv]
    have b0 : σ1.1 11 0 = (h_go T (σ.1 11 4) k mo b (l.take m) 0 (σ.1 11 0, σ.1 11 1)).1 := congrArg Prod.fst a2
    have b1 : σ1.1 11 1 = (h_go T (σ.1 11 4) k mo b (l.take m) 0 (σ.1 11 0, σ.1 11 1)).2 := congrArg Prod.snd a2
    by_cases c3 : x3 = 0
    · rw [if_pos c3, if_pos c3]; exact ⟨_, σ1, rfl, a5, b0⟩
    · rw [if_neg c3, if_neg c3]; exact ⟨_, σ1, rfl, a5, b1⟩
  | succ q ih =>
    intro g fn σ hR hT hH h5 hl hg hf
    obtain ⟨fn, rfl⟩ : ∃ q, fn = q + 1 := ⟨fn - 1, by omega⟩
    obtain ⟨σ1, a1, a2, a3, a4, a5⟩ := s_X7_goAlong fu hfu (m := l.length) ht (Or.inl hc) (Or.inr (by decide : 1 < 10)) hR hT hH h5 hl (Nat.le_refl _)
    have ht10 : h_times k mo < 10 := by have := hH.2.2.2.2.2.2; unfold h_times; split <;> omega
    rw [L_X8_keep_66, s_X0_goings fu hH, e_cl, if_neg (by rw [n_le (by omega) (by omega)]; omega), hl.1, a1, e_cv, e_let, show (1 : Int32) = nI 1 from rfl, n_add]
    have hH' : x_head σ1.1 c k mo b f s := by unfold x_head at hH ⊢; rw [a5.1 c (by omega) (by omega)]; exact hH
    have hl' : x_row σ1.1 1 l := by unfold x_row at hl ⊢; rw [a5.1 1 (by omega) (by omega), a5.1 (1 + 1) (by omega) (by omega)]; exact hl
    obtain ⟨r, σ2, r1, r2, r3⟩ := ih (g + 1) fn σ1 (by rw [a5.2]; exact hR) (hT.fr (a5.1 _ (by omega) (by omega)) (a5.1 _ (by omega) (by omega)) (a5.1 _ (by omega) (by omega))) hH' (a4.trans h5) hl' (by omega) (by omega)
    refine ⟨r, σ2, r1, a5.tr r2, ?_⟩
    rw [List.take_length] at a2
    rw [r3, a3, a2]; rfl
theorem o_keep (fu : Nat) (hfu : 1000 ≤ fu) (a1 a2 a3 : Int32) : sameI (f_X8_keep fu a1 a2 a3) (f_X9_keep fu a1 a2 a3) := by
  intro X M h
  have stop : ∀ v : Int32, ∃ r X' M', some (v, X) = some (r, X') ∧ some (v, M) = some (r, M') ∧ Rl X' M' := fun v => ⟨_, _, _, rfl, rfl, h⟩
  obtain ⟨hc, q1, q2, q3, q4, b, e1, e2, hb⟩ := s_isHead fu h.2.1 a1
  obtain ⟨P, l, p1, p2, p3, p4, p5, p6, p7, p8⟩ := h.1
  have h60 := p5.2.1
  rw [f_X8_keep, f_X9_keep, e1, e2, e_cl, e_cl]
  cases b with
  | false => exact stop _
  | true =>
    obtain ⟨j, hj, rfl⟩ := hb rfl
    obtain ⟨k, mo, bb, f, s, hx, hm, -⟩ := q4 j hj
    obtain ⟨tc, law, r1, r2, r3, r4, r5, r6, r7⟩ := h.2.2.1
    obtain ⟨T, t1, t2⟩ := r7 law r2
    rw [if_pos rfl, if_neg (show ¬ (1 : Int32) = 0 by decide), if_neg (show ¬ (1 : Int32) = 0 by decide)]
    simp only [s_inb, e_cl]
    rw [show X.1 1 1 = nI l.length from p5.1, p6]
    by_cases c0 : a2 < 0
    · rw [if_pos c0, show inb a2 0 (nI l.length) = 0 by unfold inb; rw [if_pos c0], if_pos rfl]; exact stop _
    rw [if_neg c0]
    obtain ⟨m, hm', rfl⟩ := n_of c0
    have k1 : nI l.length < nI m ↔ l.length < m := n_lt (by omega) hm'
    have k2 : inb (nI m) 0 (nI l.length) = if l.length < m then 0 else 1 := by unfold inb; rw [if_neg c0]; simp only [k1]
    rw [k2]
    simp only [k1]
    by_cases c1 : l.length < m
    · rw [if_pos c1, if_pos c1, if_pos rfl]; exact stop _
    rw [if_neg c1, if_neg c1, if_neg (show ¬ (1 : Int32) = 0 by decide)]
    by_cases d0 : a3 < 0
    · rw [if_pos d0, show inb a3 0 1 = 0 by unfold inb; rw [if_pos d0], if_pos rfl]; exact stop _
    rw [if_neg d0]
    obtain ⟨w, hw, rfl⟩ := n_of d0
    have k3 : nI w ≤ (1 : Int32) ↔ w ≤ 1 := n_le (b := 1) hw (by decide)
    have k4 : inb (nI w) 0 1 = if 1 < w then 0 else 1 := by
      unfold inb
      have : (1 : Int32) < nI w ↔ 1 < w := n_lt (a := 1) (by decide) hw
      rw [if_neg d0]; simp only [this]
    rw [k4]
    simp only [k3]
    by_cases d1 : w ≤ 1
    · rw [if_pos d1, if_neg (show ¬ 1 < w by omega), if_neg (show ¬ (1 : Int32) = 0 by decide), e_ckn _ (by omega) (by omega), n_cl (a := j) (by omega), e_let, s_law fu (by omega) r5, e_cl, p3]
      obtain ⟨X1, x1, y0, y1, y4, y5, y6, y7⟩ := s_X7_setOutAs fu (30 + 3 * law) (25 + j) (nI P) (by omega) X
      have hx' := hx
      obtain ⟨z0, z1, z2, z3, z4, z5, z6⟩ := hx
      have ht1 : 1 ≤ h_times k mo := by unfold h_times; split <;> omega
      have ht10 : h_times k mo < 10 := by unfold h_times; split <;> omega
      obtain ⟨r, X2, x2, xf, hr⟩ := s_keep_loop fu hfu (t := 30 + 3 * law) (c := 25 + j) (x3 := nI w) (by omega) (by omega) (show m ≤ l.length by omega) (h_times k mo - 1) 1 fu X1 y7 (t1.fr (y6 _ (by omega)) (y6 _ (by omega)) (y6 _ (by omega))) (by unfold x_head at hx' ⊢; rw [y6 (25 + j) (by omega)]; exact hx') (y5.trans z1) (by unfold x_row at p5 ⊢; rw [y6 1 (by omega), y6 (1 + 1) (by omega)]; exact p5) (by omega) (by omega)
      obtain ⟨M1, m1, m2, m3⟩ := s_X9_laysRow fu hfu (l := l) (σ := M) ⟨p6, h60, p7⟩
      have hT : m_text M1.1 law T := t2.pt (fun z _ _ => m3.1 63 z (by omega) (by omega)) (fun z _ _ => m3.1 62 z (by omega) (by omega))
      have hH : m_head M1.1 j k mo (nI bb) (nI f) (nI s) := by
        unfold m_head at hm ⊢
        rw [m3.1 58 _ (by omega) (by omega), m3.1 59 _ (by omega) (by omega), m3.1 60 _ (by omega) (by omega), m3.1 60 _ (by omega) (by omega), m3.1 60 _ (by omega) (by omega)]; exact hm
      obtain ⟨M2, n1, n2, n3⟩ := s_X9_goesBy fu hfu (ru := law) (h := j) (m := m) (by omega) (by omega) (by omega) ((m3.1 56 12 (by omega) (by omega)).trans r6) hT hH ⟨m2.1, h60, m2.2⟩
      rw [x1, e_cv, show (1 : Int32) = nI 1 from rfl, x2, m1, e_cv, n1, e_cv]
      have hR : Rl X2 M2 := h.sc ⟨fun c hc => (xf.1 c (by omega) (by omega)).trans (y6 c (by omega)), by rw [xf.1 7 (by omega) (by omega), y6 7 (by omega)]⟩ ⟨fun c hc => by rw [n3.1 c (by omega) (by omega) (by omega)]; exact funext fun z => m3.1 c z (by omega) (by omega), fun z hz => by rw [n3.2 z (by omega) (by omega)]; exact m3.1 56 z (by omega) (by omega)⟩
      rw [y0, y1, y4, z2, z3, z4] at hr
      rw [m3.1 56 0 (by omega) (by omega), p4] at n2
      rw [← n2] at hr
      have e0 : nI w = (0 : Int32) ↔ w = 0 := n_eq (b := 0) hw (by decide)
      simp only [e0] at hr ⊢
      by_cases w0 : w = 0
      · rw [if_pos w0] at hr ⊢; exact ⟨r, X2, M2, rfl, by rw [hr], hR⟩
      · rw [if_neg w0] at hr ⊢; exact ⟨r, X2, M2, rfl, by rw [hr], hR⟩
    · rw [if_neg d1, if_pos (show 1 < w by omega), if_pos rfl]; exact stop _
