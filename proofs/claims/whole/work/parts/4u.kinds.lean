/-! begins, kinds -/
theorem s_begins_loop (fu : Nat) (hfu : 1000 ≤ fu) {P law j k mo s0 sz : Nat} {b fo s : Int32} {T : Nat → List Nat} {ce : Nat → Int32} (hP : P ≤ 52) (hl : law < 6) (h5 : j < 5) (hs : s0 < 4) (hz : sz ≤ 40) (x3 : Int32) : ∀ (q i fn : Nat) (many least fx fm : Int32) (X M : ow_S), x_at X P law 6 k mo b fx s T → m_at M P law j k mo b fm s T → x_sh X s0 sz ce → m_sh M s0 sz ce → i + q = 201 → q < fn → ∃ r X' M', L_X8_begins_50 fu fn (nI s0) x3 many least (nI i) X = some (r, X') ∧ L_X9_begins_49 fu fn (nI s0) (nI j) x3 fo many least (nI i) M = some (r, M') ∧ xs6 X X' ∧ msh j M M' ∧ m_head M'.1 j k mo b fo s := by
  have e31 : (3 : Int32) * nI j + (1 : Int32) = nI (3 * j + 1) := by
    rw [show (3 : Int32) * nI j = nI (3 * j) from n_mul 3 j]; exact n_add _ 1
  intro q
  induction q with
  | zero =>
    intro i fn many least fx fm X M hx hm hS hS' hi hf
    obtain ⟨fn, rfl⟩ : ∃ q, fn = q + 1 := ⟨fn - 1, by omega⟩
    have hlt : (200 : Int32) < nI i := by rw [show (200 : Int32) = nI 200 from rfl, n_lt (by decide) (by omega)]; omega
    obtain ⟨h1, h2⟩ := hm.wF fo
    rw [L_X8_begins_50, L_X9_begins_49, if_pos hlt, if_pos hlt, e31, e_ckn _ (by omega) (by omega), n_cl (a := 3 * j + 1) (by omega), e_let]
    by_cases c : x3 = 0
    · rw [if_pos c, if_pos c]; exact ⟨_, _, _, rfl, rfl, xs6.rf X, h2, h1.2.2.2⟩
    · rw [if_neg c, if_neg c]; exact ⟨_, _, _, rfl, rfl, xs6.rf X, h2, h1.2.2.2⟩
  | succ q ih =>
    intro i fn many least fx fm X M hx hm hS hS' hi hf
    obtain ⟨fn, rfl⟩ : ∃ q, fn = q + 1 := ⟨fn - 1, by omega⟩
    have hlt : ¬ (200 : Int32) < nI i := by rw [show (200 : Int32) = nI 200 from rfl, n_lt (by decide) (by omega)]; omega
    have hx0 := hx.wF (nI i)
    obtain ⟨hm0, mw⟩ := hm.wF (nI i)
    obtain ⟨X1, a1, a2⟩ := s_X8_fu fu hfu (c := 6) (t := 30 + 3 * law) hP (by omega) (Or.inr rfl) hs hz hx0.1 hx0.2.2.1 hx0.2.2.2 (hS.s6 (xs6.w X 3 (nI i)))
    obtain ⟨M1, c1, c2⟩ := s_X9_fu fu hfu hP hl h5 hs hz hm0 (hS'.sh mw)
    have xw := (xs6.w X 3 (nI i)).tr a2.s6
    have mw2 := mw.tr (c2.sh j)
    have go : ∀ y z : Int32, ∃ r X' M', L_X8_begins_50 fu fn (nI s0) x3 y z (nI (i + 1)) X1 = some (r, X') ∧ L_X9_begins_49 fu fn (nI s0) (nI j) x3 fo y z (nI (i + 1)) M1 = some (r, M') ∧ xs6 X X' ∧ msh j M M' ∧ m_head M'.1 j k mo b fo s := by
      intro y z
      obtain ⟨r, X', M', d1, d2, d3, d4, d5⟩ := ih (i + 1) fn y z _ _ X1 M1 (hx0.sb a2 (Or.inr rfl)) (hm0.sb c2) (hS.s6 xw) (hS'.sh mw2) (by omega) (by omega)
      exact ⟨r, X', M', d1, d2, xw.tr d3, mw2.tr d4, d5⟩
    rw [L_X8_begins_50, L_X9_begins_49, if_neg hlt, if_neg hlt, e31, e_ckn _ (by omega) (by omega), n_cl (a := 3 * j + 1) (by omega), e_let, e_let, e_ckn _ (by omega) (by omega), n_cl (a := s0) (by omega), e_let, s_law fu hl hx0.2.1, e_cl, a1, e_cl, c1, e_cl]
    simp only [L_X8_begins_102, L_X9_begins_84, L_X9_begins_98, L_X9_begins_117, L_X9_begins_119, e_let, show nI i + (1 : Int32) = nI (i + 1) from n_add i 1, show ¬ (1 : Int32) = 0 by decide, if_false, if_true, show many + (0 : Int32) = many from Int32.add_zero many]
    by_cases c : h_fu (h_but T P k mo b (nI i) s 0) ce sz 0 = -1
    · simp only [if_pos c]
      by_cases d : least = -1
      · simp only [if_pos d]; exact go _ _
      · simp only [if_neg d]; exact go _ _
    · simp only [if_neg c]; exact go _ _
theorem o_begins (fu : Nat) (hfu : 1000 ≤ fu) (a1 a2 a3 : Int32) : sameI (f_X8_begins fu a1 a2 a3) (f_X9_begins fu a1 a2 a3) := by
  intro X M h
  have stop : ∀ v : Int32, ∃ r X' M', some (v, X) = some (r, X') ∧ some (v, M) = some (r, M') ∧ Rl X' M' := fun v => ⟨_, _, _, rfl, rfl, h⟩
  obtain ⟨r, e1, e2, e3⟩ := s_reft fu h a1 a2
  rw [f_X8_begins, f_X9_begins, e1, e2, e_cl, e_cl]
  by_cases c : r = 0
  · obtain ⟨s0, sz, hc, j, ce, w1, w2, rfl, w4, w5, q2, h5, hj, rfl⟩ := e3 c
    obtain ⟨P, law, T, k, mo, b, f, s, p1, p2, hl, hx, hm, -⟩ := h.hat q2 h5 hj
    have e31 : (3 : Int32) * nI j + (1 : Int32) = nI (3 * j + 1) := by
      rw [show (3 : Int32) * nI j = nI (3 * j) from n_mul 3 j]; exact n_add _ 1
    rw [if_pos c, if_pos c, s_inb, e_cl]
    rcases c_le (w := 1) (by decide) a3 with ⟨c1, c2⟩ | ⟨w, hw, rfl, c1, c2⟩
    · rw [show inb a3 0 1 = 0 from c1, if_pos rfl]
      rw [show (1 : Int32) = nI 1 from rfl, c2]; exact stop _
    · have c2' : ∀ {α : Type} (s K : α), (if nI w < 0 then s else if nI w ≤ (1 : Int32) then K else s) = K := c2
      obtain ⟨X1, x1, x2, x3⟩ := s_trial fu hx
      obtain ⟨r', X', M', d1, d2, d3, d4, d5⟩ := s_begins_loop fu hfu (fo := nI f) p2 hl (show j < 5 by omega) w1 w2 (nI w) 201 0 fu 0 (-1) _ _ X1 M x2 hm (w4.s6 x3) w5 (by omega) (by omega)
      rw [show inb (nI w) 0 1 = 1 from c1, if_neg (show ¬ (1 : Int32) = 0 by decide), c2', e_ckn _ (by omega) (by omega), n_cl (a := j) (by omega), e_let, x1, e_cv, e31, e_ckn _ (by omega) (by omega), n_cl (a := 3 * j + 1) (by omega), e_let, hm.2.2.2.2.2.2.1]
      exact ⟨r', X', M', d1, d2, h.sc (x3.tr d3).sc (d4.fin hm.2.2.2 d5)⟩
  · rw [if_neg c, if_neg c]; exact ⟨_, _, _, rfl, rfl, h⟩
theorem s_kinds_loop (fu : Nat) (hfu : 1000 ≤ fu) {P law j k mo b s0 sz w E : Nat} {f s : Int32} {T : Nat → List Nat} {ce : Nat → Int32} (hP : P ≤ 52) (hl : law < 6) (h5 : j < 5) (hs : s0 < 4) (hz : sz ≤ 40) (hk : k < 6) (hmo : mo < 10) (hw : w = 0 ∧ E = 6 ∨ w = 1 ∧ E = 10 ∨ w = 2 ∧ E = 17) : ∀ (q i fn kc moc kd md : Nat) (set bc bd : Int32) (X M : ow_S), x_at X P law 6 kc moc bc f s T → ((w ≠ 0 → kc = k) ∧ (w ≠ 1 → moc = mo) ∧ (w ≠ 2 → bc = nI b)) → m_at M P law j kd md bd f s T → x_sh X s0 sz ce → m_sh M s0 sz ce → i + q = E → q < fn → ∃ r X' M', L_X8_kinds_78 fu fn (nI s0) (nI w) set (nI (E - 1)) (nI i) X = some (r, X') ∧ L_X9_kinds_69 fu fn (nI s0) (nI j) (nI w) (nI k) (nI mo) (nI b) set (nI i) M = some (r, M') ∧ xs6 X X' ∧ msh j M M' ∧ m_head M'.1 j k mo (nI b) f s := by
  have e3 : (3 : Int32) * nI j = nI (3 * j) := n_mul 3 j
  have n01 : ¬ nI 1 = (0 : Int32) := by decide
  have n02 : ¬ nI 2 = (0 : Int32) := by decide
  have n12 : ¬ nI 2 = (1 : Int32) := by decide
  have n10 : ¬ nI 0 = (1 : Int32) := by decide
  have n20 : ¬ nI 0 = (2 : Int32) := by decide
  have n21 : ¬ nI 1 = (2 : Int32) := by decide
  have t0 : nI 0 = (0 : Int32) := rfl
  have t1 : nI 1 = (1 : Int32) := rfl
  have t2 : nI 2 = (2 : Int32) := rfl
  intro q
  induction q with
  | zero =>
    intro i fn kc moc kd md set bc bd X M hx hc hm hS hS' hi hf
    obtain ⟨fn, rfl⟩ : ∃ q, fn = q + 1 := ⟨fn - 1, by omega⟩
    have hlt : nI (E - 1) < nI i := by rw [n_lt (by omega) (by omega)]; omega
    obtain ⟨h1, g1⟩ := hm.wK (v := k) hk
    obtain ⟨h2, g2⟩ := h1.wM (v := mo) hmo
    obtain ⟨h3, g3⟩ := h2.wB (nI b)
    refine ⟨set, X, ow_sI (ow_sI (ow_sI M 58 j (nI k)) 59 j (nI mo)) 60 (3 * j) (nI b), ?_, ?_, xs6.rf X, (g1.tr g2).tr g3, h3.2.2.2⟩
    · rw [L_X8_kinds_78, if_pos hlt]
    · have fin : ∀ v : Int32, v ≤ nI i → L_X9_kinds_92 fu (L_X9_kinds_69 fu fn) (nI s0) (nI j) (nI w) (nI k) (nI mo) (nI b) set (nI i) (nI i) v M = some (set, ow_sI (ow_sI (ow_sI M 58 j (nI k)) 59 j (nI mo)) 60 (3 * j) (nI b)) := by
        intro v hv
        rw [L_X9_kinds_92, if_pos hv, e3, e_ckn _ (by omega) (by omega), e_let, e_ckn _ (by omega) (by omega), e_let, e_ckn _ (by omega) (by omega), e_let, n_cl (a := j) (by omega), n_cl (a := 3 * j) (by omega)]
      rw [L_X9_kinds_69]
      rcases hw with ⟨rfl, rfl⟩ | ⟨rfl, rfl⟩ | ⟨rfl, rfl⟩
      · rw [if_pos t0]; exact fin _ (by rw [show (6 : Int32) = nI 6 from rfl, n_le (by decide) (by omega)]; omega)
      · rw [if_neg n01, if_pos t1]; exact fin _ (by rw [show (10 : Int32) = nI 10 from rfl, n_le (by decide) (by omega)]; omega)
      · rw [if_neg n02, if_neg n12]; exact fin _ (by rw [show (17 : Int32) = nI 17 from rfl, n_le (by decide) (by omega)]; omega)
  | succ q ih =>
    intro i fn kc moc kd md set bc bd X M hx hc hm hS hS' hi hf
    obtain ⟨fn, rfl⟩ : ∃ q, fn = q + 1 := ⟨fn - 1, by omega⟩
    have hlt : ¬ nI (E - 1) < nI i := by rw [n_lt (by omega) (by omega)]; omega
    obtain ⟨K, hK⟩ : ∃ K, K = if w = 0 then i else k := ⟨_, rfl⟩
    obtain ⟨Mo, hMo⟩ : ∃ Mo, Mo = if w = 1 then i else mo := ⟨_, rfl⟩
    obtain ⟨B, hB⟩ : ∃ B, B = if w = 2 then i else b := ⟨_, rfl⟩
    have hK6 : K < 6 := by rw [hK]; split <;> omega
    have hMo10 : Mo < 10 := by rw [hMo]; split <;> omega
    have hX : ∃ X0, L_X8_kinds_78 fu (fn + 1) (nI s0) (nI w) set (nI (E - 1)) (nI i) X = L_X8_kinds_127 fu (L_X8_kinds_78 fu fn) (nI s0) (nI w) set (nI (E - 1)) (nI i) X0 ∧ x_at X0 P law 6 K Mo (nI B) f s T ∧ xs6 X X0 := by
      rw [L_X8_kinds_78, if_neg hlt]
      rcases hw with ⟨rfl, rfl⟩ | ⟨rfl, rfl⟩ | ⟨rfl, rfl⟩
      · rw [if_pos rfl] at hK
        rw [if_neg (by decide)] at hMo hB
        subst hK; subst hMo; subst hB
        rw [hc.2.1 (by decide), hc.2.2 (by decide)] at hx
        exact ⟨_, by rw [if_pos t0, e_let], hx.wK hK6, xs6.w X 0 _⟩
      · rw [if_pos rfl] at hMo
        rw [if_neg (by decide)] at hK hB
        subst hK; subst hMo; subst hB
        rw [hc.1 (by decide), hc.2.2 (by decide)] at hx
        exact ⟨_, by rw [if_neg n01, if_pos t1, e_let], hx.wM hMo10, xs6.w X 1 _⟩
      · rw [if_pos rfl] at hB
        rw [if_neg (by decide)] at hK hMo
        subst hK; subst hMo; subst hB
        rw [hc.1 (by decide), hc.2.1 (by decide)] at hx
        exact ⟨_, by rw [if_neg n02, if_neg n12, e_let], hx.wB _, xs6.w X 2 _⟩
    obtain ⟨X0, z1, z2, z3⟩ := hX
    obtain ⟨h1, g1⟩ := hm.wK (v := K) hK6
    obtain ⟨h2, g2⟩ := h1.wM (v := Mo) hMo10
    obtain ⟨h3, g3⟩ := h2.wB (nI B)
    obtain ⟨M0, hM0⟩ : ∃ M0, M0 = ow_sI (ow_sI (ow_sI M 58 j (nI K)) 59 j (nI Mo)) 60 (3 * j) (nI B) := ⟨_, rfl⟩
    rw [← hM0] at h3 g3
    have mw := (g1.tr g2).tr g3
    have hMe : L_X9_kinds_69 fu (fn + 1) (nI s0) (nI j) (nI w) (nI k) (nI mo) (nI b) set (nI i) M = (ow_cl (f_X9_unlike fu (nI s0) (nI j) M0) fun r σ => if r = (-1 : Int32) then (L_X9_kinds_170 fu (L_X9_kinds_69 fu fn) (nI s0) (nI j) (nI w) (nI k) (nI mo) (nI b) (nI i) set ((1 : Int32) <<< (nI i &&& 31)) σ) else (L_X9_kinds_170 fu (L_X9_kinds_69 fu fn) (nI s0) (nI j) (nI w) (nI k) (nI mo) (nI b) (nI i) set (0 : Int32) σ)) := by
      have step : ∀ v : Int32, ¬ v ≤ nI i → L_X9_kinds_92 fu (L_X9_kinds_69 fu fn) (nI s0) (nI j) (nI w) (nI k) (nI mo) (nI b) set (nI i) (nI i) v M = L_X9_kinds_149 fu (L_X9_kinds_69 fu fn) (nI s0) (nI j) (nI w) (nI k) (nI mo) (nI b) set (nI i) (nI (3 * j)) (nI B) (ow_sI (ow_sI M 58 j (nI K)) 59 j (nI Mo)) := by
        intro v hv
        rw [L_X9_kinds_92, if_neg hv]
        rcases hw with ⟨rfl, rfl⟩ | ⟨rfl, rfl⟩ | ⟨rfl, rfl⟩
        · rw [if_pos rfl] at hK
          rw [if_neg (by decide)] at hMo hB
          subst hK; subst hMo; subst hB
          rw [if_pos t0, L_X9_kinds_111, e_ckn _ (by omega) (by omega), e_let, if_neg n10, L_X9_kinds_129, e_ckn _ (by omega) (by omega), e_let, if_neg n20, n_cl (a := j) (by omega), e3]
        · rw [if_pos rfl] at hMo
          rw [if_neg (by decide)] at hK hB
          subst hK; subst hMo; subst hB
          rw [if_neg n01, L_X9_kinds_111, e_ckn _ (by omega) (by omega), e_let, if_pos t1, L_X9_kinds_129, e_ckn _ (by omega) (by omega), e_let, if_neg n21, n_cl (a := j) (by omega), e3]
        · rw [if_pos rfl] at hB
          rw [if_neg (by decide)] at hK hMo
          subst hK; subst hMo; subst hB
          rw [if_neg n02, L_X9_kinds_111, e_ckn _ (by omega) (by omega), e_let, if_neg n12, L_X9_kinds_129, e_ckn _ (by omega) (by omega), e_let, if_pos t2, n_cl (a := j) (by omega), e3]
      have s149 : L_X9_kinds_149 fu (L_X9_kinds_69 fu fn) (nI s0) (nI j) (nI w) (nI k) (nI mo) (nI b) set (nI i) (nI (3 * j)) (nI B) (ow_sI (ow_sI M 58 j (nI K)) 59 j (nI Mo)) = (ow_cl (f_X9_unlike fu (nI s0) (nI j) M0) fun r σ => if r = (-1 : Int32) then (L_X9_kinds_170 fu (L_X9_kinds_69 fu fn) (nI s0) (nI j) (nI w) (nI k) (nI mo) (nI b) (nI i) set ((1 : Int32) <<< (nI i &&& 31)) σ) else (L_X9_kinds_170 fu (L_X9_kinds_69 fu fn) (nI s0) (nI j) (nI w) (nI k) (nI mo) (nI b) (nI i) set (0 : Int32) σ)) := by
        rw [L_X9_kinds_149, e_ckn _ (by omega) (by omega), n_cl (a := 3 * j) (by omega), e_let, ← hM0]
      rw [← s149, L_X9_kinds_69]
      rcases hw with ⟨rfl, rfl⟩ | ⟨rfl, rfl⟩ | ⟨rfl, rfl⟩
      · rw [if_pos t0]; exact step _ (by rw [show (6 : Int32) = nI 6 from rfl, n_le (by decide) (by omega)]; omega)
      · rw [if_neg n01, if_pos t1]; exact step _ (by rw [show (10 : Int32) = nI 10 from rfl, n_le (by decide) (by omega)]; omega)
      · rw [if_neg n02, if_neg n12]; exact step _ (by rw [show (17 : Int32) = nI 17 from rfl, n_le (by decide) (by omega)]; omega)
    obtain ⟨X1, a1, a2⟩ := s_X8_fu fu hfu (c := 6) (t := 30 + 3 * law) hP (by omega) (Or.inr rfl) hs hz z2.1 z2.2.2.1 z2.2.2.2 (hS.s6 z3)
    obtain ⟨M1, c1, c2⟩ := s_X9_fu fu hfu hP hl h5 hs hz h3 (hS'.sh mw)
    have xw := z3.tr a2.s6
    have mw2 := mw.tr (c2.sh j)
    have go : ∀ y : Int32, ∃ r X' M', L_X8_kinds_78 fu fn (nI s0) (nI w) y (nI (E - 1)) (nI (i + 1)) X1 = some (r, X') ∧ L_X9_kinds_69 fu fn (nI s0) (nI j) (nI w) (nI k) (nI mo) (nI b) y (nI (i + 1)) M1 = some (r, M') ∧ xs6 X X' ∧ msh j M M' ∧ m_head M'.1 j k mo (nI b) f s := by
      intro y
      obtain ⟨r, X', M', d1, d2, d3, d4, d5⟩ := ih (i + 1) fn K Mo K Mo y (nI B) (nI B) X1 M1 (z2.sb a2 (Or.inr rfl)) ⟨fun e => by rw [hK, if_neg e], fun e => by rw [hMo, if_neg e], fun e => by rw [hB, if_neg e]⟩ (h3.sb c2) (hS.s6 xw) (hS'.sh mw2) (by omega) (by omega)
      exact ⟨r, X', M', d1, d2, xw.tr d3, mw2.tr d4, d5⟩
    rw [z1, hMe, L_X8_kinds_127, e_ckn _ (by omega) (by omega), n_cl (a := s0) (by omega), e_let, s_law fu hl z2.2.1, e_cl, a1, e_cl, c1, e_cl]
    simp only [L_X8_kinds_158, L_X9_kinds_170, e_let, show nI i + (1 : Int32) = nI (i + 1) from n_add i 1, Int32.or_zero]
    by_cases c : h_fu (h_but T P K Mo (nI B) f s 0) ce sz 0 = -1
    · simp only [if_pos c]; exact go _
    · simp only [if_neg c]; exact go _
theorem o_kinds (fu : Nat) (hfu : 1000 ≤ fu) (a1 a2 a3 : Int32) : sameI (f_X8_kinds fu a1 a2 a3) (f_X9_kinds fu a1 a2 a3) := by
  intro X M h
  have stop : ∀ v : Int32, ∃ r X' M', some (v, X) = some (r, X') ∧ some (v, M) = some (r, M') ∧ Rl X' M' := fun v => ⟨_, _, _, rfl, rfl, h⟩
  obtain ⟨r, e1, e2, e3⟩ := s_reft fu h a1 a2
  rw [f_X8_kinds, f_X9_kinds, e1, e2, e_cl, e_cl]
  by_cases c : r = 0
  · obtain ⟨s0, sz, hc, j, ce, w1, w2, rfl, w4, w5, q2, h5, hj, rfl⟩ := e3 c
    obtain ⟨P, law, T, k, mo, b, f, s, p1, p2, hl, hx, hm, -⟩ := h.hat q2 h5 hj
    have e33 : (3 : Int32) * nI j = nI (3 * j) := n_mul 3 j
    obtain ⟨y0, y1, y2, y3, y4, y5, y6⟩ := id hm.2.2.2
    rw [if_pos c, if_pos c, s_inb, e_cl]
    rcases c_le (w := 2) (by decide) a3 with ⟨c1, c2⟩ | ⟨w, hw, rfl, c1, c2⟩
    · rw [show inb a3 0 2 = 0 from c1, if_pos rfl]
      rw [show (2 : Int32) = nI 2 from rfl, c2]; exact stop _
    · have c2' : ∀ {α : Type} (s K : α), (if nI w < 0 then s else if nI w ≤ (2 : Int32) then K else s) = K := c2
      obtain ⟨X1, x1, x2, x3⟩ := s_trial fu hx
      have key : ∀ (E i0 : Nat), (w = 0 ∧ E = 6 ∨ w = 1 ∧ E = 10 ∨ w = 2 ∧ E = 17) → i0 ≤ 1 → ∃ r X' M', L_X8_kinds_78 fu fu (nI s0) (nI w) 0 (nI (E - 1)) (nI i0) X1 = some (r, X') ∧ L_X9_kinds_69 fu fu (nI s0) (nI j) (nI w) (nI k) (nI mo) (nI b) 0 (nI i0) M = some (r, M') ∧ Rl X' M' := by
        intro E i0 hE hi0
        obtain ⟨r', X', M', d1, d2, d3, d4, d5⟩ := s_kinds_loop fu hfu (b := b) p2 hl (show j < 5 by omega) w1 w2 y5 y6 hE (E - i0) i0 fu k mo k mo 0 (nI b) (nI b) X1 M x2 ⟨fun _ => rfl, fun _ => rfl, fun _ => rfl⟩ hm (w4.s6 x3) w5 (by omega) (by omega)
        exact ⟨r', X', M', d1, d2, h.sc (x3.tr d3).sc (d4.fin hm.2.2.2 d5)⟩
      rw [show inb (nI w) 0 2 = 1 from c1, if_neg (show ¬ (1 : Int32) = 0 by decide), c2', e_ckn _ (by omega) (by omega), e_let, e_ckn _ (by omega) (by omega), e_let, e_ckn _ (by omega) (by omega), e_let, e33, e_ckn _ (by omega) (by omega), e_let, n_cl (a := j) (by omega), n_cl (a := 3 * j) (by omega), x1, e_cv, y0, y1, y2]
      rcases (show w = 0 ∨ w = 1 ∨ w = 2 by omega) with rfl | rfl | rfl
      · exact key 6 0 (Or.inl ⟨rfl, rfl⟩) (by omega)
      · exact key 10 0 (Or.inr (Or.inl ⟨rfl, rfl⟩)) (by omega)
      · exact key 17 1 (Or.inr (Or.inr ⟨rfl, rfl⟩)) (by omega)
  · rw [if_neg c, if_neg c]; exact ⟨_, _, _, rfl, rfl, h⟩
