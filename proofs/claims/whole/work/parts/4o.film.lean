/-! film -/
theorem Rl.sheet2 {X M X' M' : ow_S} (h : Rl X M) (a : ∀ c, c ≠ 3 → c ≠ 4 → c ≠ 11 → c ≠ 12 → ¬(48 ≤ c ∧ c < 56) → X'.1 c = X.1 c) (b : ∀ c, c ≠ 66 → c ≠ 67 → c ≠ 68 → c ≠ 72 → c ≠ 73 → c ≠ 74 → c ≠ 56 → M'.1 c = M.1 c) (b' : ∀ z, z ≠ 36 → z ≠ 37 → z ≠ 38 → M'.1 56 z = M.1 56 z) (hS : rlS X'.1 M'.1) : Rl X' M' := by
  obtain ⟨h1, h2, h3, h4, h5, h6, h7⟩ := h
  have A : ∀ c, c < 48 → c ≠ 3 → c ≠ 4 → c ≠ 11 → c ≠ 12 → X'.1 c = X.1 c := fun c h0 h1 h2 h3 h4 => a c h1 h2 h3 h4 (by omega)
  have B : ∀ c, c < 66 → c ≠ 56 → M'.1 c = M.1 c := fun c h0 h1 => b c (by omega) (by omega) (by omega) (by omega) (by omega) (by omega) (by omega)
  have e0 : X'.1 0 = X.1 0 := A 0 (by omega) (by omega) (by omega) (by omega) (by omega)
  have e7 : X'.1 7 = X.1 7 := A 7 (by omega) (by omega) (by omega) (by omega) (by omega)
  refine ⟨h1.fr (by rw [e0]) (A 1 (by omega) (by omega) (by omega) (by omega) (by omega)) (A 2 (by omega) (by omega) (by omega) (by omega) (by omega)) (b' 0 (by omega) (by omega) (by omega)) (b' 2 (by omega) (by omega) (by omega)) (B 57 (by omega) (by omega)), h2.fr (by rw [e0]) (fun c _ _ => A c (by omega) (by omega) (by omega) (by omega) (by omega)) (b' 3 (by omega) (by omega) (by omega)) (B 58 (by omega) (by omega)) (B 59 (by omega) (by omega)) (B 60 (by omega) (by omega)), h3.fr (by rw [e0]) (by rw [e0]) (fun c _ _ => A c (by omega) (by omega) (by omega) (by omega) (by omega)) (b' 11 (by omega) (by omega) (by omega)) (b' 12 (by omega) (by omega) (by omega)) (B 62 (by omega) (by omega)) (B 63 (by omega) (by omega)), h4.fr (by rw [e7]) (A 8 (by omega) (by omega) (by omega) (by omega) (by omega)) (b' 8 (by omega) (by omega) (by omega)) (B 61 (by omega) (by omega)), h5.fr (b 70 (by omega) (by omega) (by omega) (by omega) (by omega) (by omega) (by omega)), hS, h7.fr (by rw [e0]) (by rw [e0]) (fun c _ _ => A c (by omega) (by omega) (by omega) (by omega) (by omega)) (fun c _ _ => by rw [A c (by omega) (by omega) (by omega) (by omega) (by omega)]; exact ⟨rfl, rfl⟩) (fun z _ _ => b' z (by omega) (by omega) (by omega)) (B 64 (by omega) (by omega)) (B 65 (by omega) (by omega))⟩
theorem x_at.lo {X X' : ow_S} {P law j k mo : Nat} {b f s : Int32} {T : Nat → List Nat} (h : x_at X P law (25 + j) k mo b f s T) (hl : law < 6) (hj : j < 5) (w : ∀ c, c < 48 → c ≠ 3 → c ≠ 4 → c ≠ 11 → c ≠ 12 → X'.1 c = X.1 c) : x_at X' P law (25 + j) k mo b f s T := by
  have e : X'.1 0 = X.1 0 := w 0 (by decide) (by decide) (by decide) (by decide) (by decide)
  refine ⟨by rw [e]; exact h.1, by rw [e]; exact h.2.1, h.2.2.1.fr (w _ (by omega) (by omega) (by omega) (by omega) (by omega)) (w _ (by omega) (by omega) (by omega) (by omega) (by omega)) (w _ (by omega) (by omega) (by omega) (by omega) (by omega)), ?_⟩
  have hh := h.2.2.2
  unfold x_head at hh ⊢
  rw [w (25 + j) (by omega) (by omega) (by omega) (by omega) (by omega)]; exact hh
theorem s_X8_film_loop (fu : Nat) (hfu : 1000 ≤ fu) {P law j k mo s0 n : Nat} {b f s : Int32} {T : Nat → List Nat} (hP : P ≤ 52) (hl : law < 6) (h5 : j < 5) (hs : s0 < 4) (hn : n ≤ 40) : ∀ (q i fn : Nat) (X : ow_S), x_at X P law (25 + j) k mo b f s T → X.1 (48 + 2 * s0) 1 = 2 → X.1 (48 + 2 * s0) 2 = nI n → i + q = n → q < fn → ∃ X', L_X8_film_56 fu fn (nI s0) (nI j) (nI n) (nI i) X = some (nI n, X') ∧ (∀ c, c ≠ 3 → c ≠ 4 → c ≠ 11 → c ≠ 12 → c ≠ 48 + 2 * s0 + 1 → X'.1 c = X.1 c) ∧ (∀ z, i ≤ z → z < n → X'.1 (48 + 2 * s0 + 1) z = h_but T P k mo b f s 0 (z + 1)) ∧ ∀ z, (z < i ∨ n ≤ z) → X'.1 (48 + 2 * s0 + 1) z = X.1 (48 + 2 * s0 + 1) z := by
  intro q
  induction q with
  | zero =>
    intro i fn X hx e1 e2 hi hf
    obtain ⟨fn, rfl⟩ : ∃ q, fn = q + 1 := ⟨fn - 1, by omega⟩
    refine ⟨X, ?_, fun _ _ _ _ _ _ => rfl, fun z a c => by omega, fun _ _ => rfl⟩
    rw [L_X8_film_56, if_pos (by rw [n_le (by omega) (by omega)]; omega)]
  | succ q ih =>
    intro i fn X hx e1 e2 hi hf
    obtain ⟨fn, rfl⟩ : ∃ q, fn = q + 1 := ⟨fn - 1, by omega⟩
    obtain ⟨X1, x1, x2⟩ := s_X8_saysBut fu hfu (i := i + 1) (way := 0) (c := 25 + j) (t := 30 + 3 * law) hP hx.1 (by omega) (Or.inl (by omega)) hx.2.2.1 hx.2.2.2
    have hd : X1.1 (48 + 2 * s0) = X.1 (48 + 2 * s0) := x2 _ (by omega) (by omega) (by omega) (by omega)
    have hd' : X1.1 (48 + 2 * s0 + 1) = X.1 (48 + 2 * s0 + 1) := x2 _ (by omega) (by omega) (by omega) (by omega)
    have hput : ∀ v : Int32, f_X5_put fu (48 + 2 * s0) (nI i) v X1 = some (ow_sI X1 (48 + 2 * s0 + 1) i v) := by
      intro v
      rw [f_X5_put, f_X5_has, hd, e2, if_neg (nI_pos (by omega)), if_neg (by rw [n_le (by omega) (by omega)]; omega), e_cl, if_neg (show ¬ (1 : Int32) = 0 by decide), hd, e1, if_neg (show ¬ (2 : Int32) = 0 by decide), if_neg (show ¬ (2 : Int32) = 1 by decide), L_X5_put_39, e_ckn _ (by omega) (by omega), n_cl (a := i) (by omega), e_let]
    rw [L_X8_film_56, if_neg (by rw [n_le (by omega) (by omega)]; omega), e_ckn _ (by omega) (by omega), n_cl (a := s0) (by omega), e_let, e_ckn _ (by omega) (by omega), n_cl (a := j) (by omega), e_let, s_law fu hl hx.2.1, e_cl, show nI i + (1 : Int32) = nI (i + 1) from n_add i 1, x1, e_cl, hput, e_cv, e_let]
    have w1 : ∀ c, c ≠ 3 → c ≠ 4 → c ≠ 11 → c ≠ 12 → c ≠ 48 + 2 * s0 + 1 → (ow_sI X1 (48 + 2 * s0 + 1) i (h_but T P k mo b f s 0 (i + 1))).1 c = X.1 c := fun c a1 a2 a3 a4 a5 => (g_k _ _ a5).trans (x2 c a1 a2 a3 a4)
    obtain ⟨X2, y1, y2, y3, y4⟩ := ih (i + 1) fn (ow_sI X1 (48 + 2 * s0 + 1) i (h_but T P k mo b f s 0 (i + 1))) (hx.lo hl h5 (fun c a0 a1 a2 a3 a4 => w1 c a1 a2 a3 a4 (by omega))) (by rw [w1 _ (by omega) (by omega) (by omega) (by omega) (by omega)]; exact e1) (by rw [w1 _ (by omega) (by omega) (by omega) (by omega) (by omega)]; exact e2) (by omega) (by omega)
    refine ⟨X2, y1, fun c a1 a2 a3 a4 a5 => (y2 c a1 a2 a3 a4 a5).trans (w1 c a1 a2 a3 a4 a5), fun z a c => ?_, fun z hz => ?_⟩
    · by_cases e : z = i
      · subst e
        rw [y4 z (by omega)]; exact g_same _ _ _ _
      · exact y3 z (by omega) c
    · rw [y4 z (by omega), g_j _ _ (by omega), hd']
theorem s_X9_film_loop (fu : Nat) (hfu : 1000 ≤ fu) {P law j k mo s0 n : Nat} {b f s : Int32} {T : Nat → List Nat} (hP : P ≤ 52) (hl : law < 6) (h5 : j < 5) (hs : s0 < 4) (hn : n ≤ 40) : ∀ (q i fn : Nat) (M : ow_S), m_at M P law j k mo b f s T → i + q = 40 → q < fn → ∃ M', L_X9_film_61 fu fn (nI s0) (nI j) (nI n) (nI i) M = some (nI n, M') ∧ (∀ c, c ≠ 68 → c ≠ 72 → c ≠ 73 → c ≠ 74 → c ≠ 56 → M'.1 c = M.1 c) ∧ (∀ z, z ≠ 36 → z ≠ 37 → z ≠ 38 → M'.1 56 z = M.1 56 z) ∧ (∀ z, i ≤ z → z < 40 → M'.1 68 (40 * s0 + z) = if z < n then h_but T P k mo b f s 0 (z + 1) else 0) ∧ ∀ z, ¬(40 * s0 + i ≤ z ∧ z < 40 * s0 + 40) → M'.1 68 z = M.1 68 z := by
  intro q
  induction q with
  | zero =>
    intro i fn M hm hi hf
    obtain ⟨fn, rfl⟩ : ∃ q, fn = q + 1 := ⟨fn - 1, by omega⟩
    refine ⟨M, ?_, fun _ _ _ _ _ _ => rfl, fun _ _ _ _ => rfl, fun z a c => by omega, fun _ _ => rfl⟩
    rw [L_X9_film_61, if_pos (by rw [show (40 : Int32) = nI 40 from rfl, n_le (by decide) (by omega)]; omega)]
  | succ q ih =>
    intro i fn M hm hi hf
    obtain ⟨fn, rfl⟩ : ∃ q, fn = q + 1 := ⟨fn - 1, by omega⟩
    have go : ∀ (v : Int32) (M1 : ow_S), m_at M1 P law j k mo b f s T → msb M M1 → v = (if i < n then h_but T P k mo b f s 0 (i + 1) else 0) → ∃ M', L_X9_film_93 fu (L_X9_film_61 fu fn) (nI s0) (nI j) (nI n) (nI i) v M1 = some (nI n, M') ∧ (∀ c, c ≠ 68 → c ≠ 72 → c ≠ 73 → c ≠ 74 → c ≠ 56 → M'.1 c = M.1 c) ∧ (∀ z, z ≠ 36 → z ≠ 37 → z ≠ 38 → M'.1 56 z = M.1 56 z) ∧ (∀ z, i ≤ z → z < 40 → M'.1 68 (40 * s0 + z) = if z < n then h_but T P k mo b f s 0 (z + 1) else 0) ∧ ∀ z, ¬(40 * s0 + i ≤ z ∧ z < 40 * s0 + 40) → M'.1 68 z = M.1 68 z := by
      intro v M1 h1 w hv
      have h68 : M1.1 68 = M.1 68 := w.1 68 (by decide) (by decide) (by decide) (by decide)
      have h2 : m_at (ow_sI M1 68 (40 * s0 + i) v) P law j k mo b f s T := ⟨by rw [g_k _ _ (by decide)]; exact h1.1, by rw [g_k _ _ (by decide)]; exact h1.2.1, h1.2.2.1.eq (g_k _ _ (by decide)) (g_k _ _ (by decide)), h1.2.2.2.eq (g_k _ _ (by decide)) (g_k _ _ (by decide)) (g_k _ _ (by decide))⟩
      obtain ⟨M2, y1, y2, y3, y4, y5⟩ := ih (i + 1) fn _ h2 (by omega) (by omega)
      refine ⟨M2, ?_, fun c a0 a1 a2 a3 a4 => ?_, fun z a0 a1 a2 => ?_, fun z a c => ?_, fun z hz => ?_⟩
      · rw [L_X9_film_93, show (40 : Int32) * nI s0 = nI (40 * s0) from n_mul 40 s0, n_add, e_ckn _ (by omega) (by omega), n_cl (a := 40 * s0 + i) (by omega), e_let, e_let, show nI i + (1 : Int32) = nI (i + 1) from n_add i 1]; exact y1
      · rw [y2 c a0 a1 a2 a3 a4, g_k _ _ a0]; exact w.1 c a1 a2 a3 a4
      · rw [y3 z a0 a1 a2, g_k _ _ (show 56 ≠ 68 by decide)]; exact w.2 z a0 a1 a2
      · by_cases e : z = i
        · subst e
          rw [y5 _ (by omega), g_same]; exact hv
        · exact y4 z (by omega) c
      · rw [y5 z (by omega), g_j _ _ (by omega), h68]
    rw [L_X9_film_61, if_neg (by rw [show (40 : Int32) = nI 40 from rfl, n_le (by decide) (by omega)]; omega)]
    by_cases c : n ≤ i
    · rw [if_pos (by rw [n_le (by omega) (by omega)]; exact c)]
      exact go 0 M hm (msb.rf M) (by rw [if_neg (by omega)])
    · rw [if_neg (by rw [n_le (by omega) (by omega)]; exact c)]
      obtain ⟨M1, M2, m1, m2, m3⟩ := s_X9_saysBut fu hfu (i := i + 1) (way := 0) hP hm.1 hl h5 hm.2.1 hm.2.2.1 hm.2.2.2
      rw [show nI i + (1 : Int32) = nI (i + 1) from n_add i 1, m1, e_cv, m2, e_cl]
      exact go _ M2 (hm.sb m3) m3 (by rw [if_pos (by omega)])
theorem o_film (fu : Nat) (hfu : 1000 ≤ fu) (a1 a2 a3 : Int32) : sameI (f_X8_film fu a1 a2 a3) (f_X9_film fu a1 a2 a3) := by
  intro X M h
  have stop : ∀ v : Int32, ∃ r X' M', some (v, X) = some (r, X') ∧ some (v, M) = some (r, M') ∧ Rl X' M' := fun v => ⟨_, _, _, rfl, rfl, h⟩
  rw [f_X8_film, f_X9_film, s_isSheet, s_inb, e_cl, e_cl]
  rcases inb_cases (v := a1) (a := 0) (b := 3) (by decide) (by decide) with i1 | ⟨i1, s0, s1, s2, rfl⟩
  · rw [show inb a1 0 3 = 0 from i1, if_pos rfl, if_pos rfl]; exact stop _
  rw [show inb (nI s0) 0 3 = 1 from i1, if_neg (show ¬ (1 : Int32) = 0 by decide), if_neg (show ¬ (1 : Int32) = 0 by decide)]
  obtain ⟨hc, q1, q2, q3, q4, bb, e1, e2, hb⟩ := s_isHead fu h.2.1 a2
  rw [e1, e2, e_cl, e_cl]
  cases bb with
  | false => exact stop _
  | true =>
    obtain ⟨j, hj, rfl⟩ := hb rfl
    obtain ⟨P, law, T, k, mo, b, f, s, p1, p2, hl, hx, hm, -⟩ := h.hat q2 q1 hj
    rw [if_pos rfl, if_neg (show ¬ (1 : Int32) = 0 by decide), if_neg (show ¬ (1 : Int32) = 0 by decide), hx.1, hm.1]
    have hw : f_X9_within fu (nI P) 0 40 M = some (nI (min P 40), M) := by
      rw [f_X9_within, if_pos (show (0 : Int32) ≤ nI P by rw [show (0 : Int32) = nI 0 from rfl, n_le (by decide) (by omega)]; omega)]
      by_cases c : P ≤ 40
      · rw [if_pos (show nI P ≤ (40 : Int32) by rw [show (40 : Int32) = nI 40 from rfl, n_le (by omega) (by decide)]; exact c), Nat.min_eq_left c]
      · rw [if_neg (show ¬ nI P ≤ (40 : Int32) by rw [show (40 : Int32) = nI 40 from rfl, n_le (by omega) (by decide)]; exact c), Nat.min_eq_right (by omega)]; rfl
    rw [hw, e_cl, s_inb, e_cl]
    have hmin : min P 40 ≤ 40 := Nat.min_le_right _ _
    rcases inb_cases (v := a3) (a := 0) (b := min P 40) (by decide) (by omega) with i3 | ⟨i3, n, n1, n2, rfl⟩
    · rw [show inb a3 0 (nI (min P 40)) = 0 from i3, if_pos rfl]
      by_cases d0 : a3 < 0
      · rw [if_pos d0]; exact stop _
      · rw [if_neg d0]
        obtain ⟨n, hn, rfl⟩ := n_of d0
        unfold inb at i3
        rw [if_neg (show ¬ nI n < nI 0 from d0)] at i3
        by_cases d1 : nI P < nI n
        · rw [if_pos d1]; exact stop _
        · rw [if_neg d1]
          by_cases d2 : nI n ≤ (40 : Int32)
          · exfalso
            rw [n_lt (by omega) hn] at d1
            have d2' : n ≤ 40 := (n_le (b := 40) hn (by decide)).mp d2
            rw [if_neg (by rw [n_lt (by omega) hn]; omega)] at i3
            exact absurd i3 (by decide)
          · rw [if_neg d2]; exact stop _
    · rw [show inb (nI n) 0 (nI (min P 40)) = 1 from i3, if_neg (show ¬ (1 : Int32) = 0 by decide), if_neg (nI_pos (by omega)), if_neg (by rw [n_lt (by omega) (by omega)]; omega), if_pos (show nI n ≤ (40 : Int32) by rw [show (40 : Int32) = nI 40 from rfl, n_le (by omega) (by decide)]; omega), e_ckn _ (by omega) (by omega), e_let, e_ckn _ (by omega) (by omega), e_let, e_ckn _ (by omega) (by omega), e_let, n_cl (a := s0) (by omega)]
      obtain ⟨X1, x1, x2, x3, x4, x5⟩ := s_become5 fu hfu (h := 48 + 2 * s0) (show n ≤ 40 by omega) 2 X
      obtain ⟨X2, y1, y2, y3, y4⟩ := s_X8_film_loop fu hfu p2 hl (show j < 5 by omega) (show s0 < 4 by omega) (show n ≤ 40 by omega) n 0 fu X1 (hx.lo hl (by omega) (fun c a0 _ _ _ _ => x2 c (by omega) (by omega))) x3 x4 (by omega) (by omega)
      have hm1 : m_at (ow_sI (ow_sI M 66 s0 2) 67 s0 (nI n)) P law j k mo (nI b) (nI f) (nI s) T := ⟨by rw [g_k _ _ (by decide), g_k _ _ (by decide)]; exact hm.1, by rw [g_k _ _ (by decide), g_k _ _ (by decide)]; exact hm.2.1, hm.2.2.1.eq (by rw [g_k _ _ (by decide), g_k _ _ (by decide)]) (by rw [g_k _ _ (by decide), g_k _ _ (by decide)]), hm.2.2.2.eq (by rw [g_k _ _ (by decide), g_k _ _ (by decide)]) (by rw [g_k _ _ (by decide), g_k _ _ (by decide)]) (by rw [g_k _ _ (by decide), g_k _ _ (by decide)])⟩
      obtain ⟨M2, z1, z2, z3, z4, z5⟩ := s_X9_film_loop fu hfu p2 hl (show j < 5 by omega) (show s0 < 4 by omega) (show n ≤ 40 by omega) 40 0 fu _ hm1 (by omega) (by omega)
      rw [x1, e_cv]
      refine ⟨_, X2, M2, y1, z1, h.sheet2 (fun c a1 a2 a3 a4 a5 => ?_) (fun c a1 a2 a3 a4 a5 a6 a7 => ?_) (fun z a1 a2 a3 => ?_) (fun t ht => ?_)⟩
      · rw [y2 c a1 a2 a3 a4 (by omega)]; exact x2 c (by omega) (by omega)
      · rw [z2 c a3 a4 a5 a6 a7, g_k _ _ a2, g_k _ _ a1]
      · rw [z3 z a1 a2 a3, g_k _ _ (by decide), g_k _ _ (by decide)]
      · by_cases e : t = s0
        · subst e
          refine ⟨3, n, by omega, by omega, ?_, ?_, ?_, ?_, fun z hz => ?_⟩
          · rw [y2 _ (by omega) (by omega) (by omega) (by omega) (by omega), x3]; rfl
          · rw [z2 66 (by decide) (by decide) (by decide) (by decide) (by decide), g_k _ _ (by decide), g_same]; rfl
          · rw [y2 _ (by omega) (by omega) (by omega) (by omega) (by omega), x4]
          · rw [z2 67 (by decide) (by decide) (by decide) (by decide) (by decide), g_same]
          · rw [z4 z (by omega) hz]
            by_cases c : z < n
            · rw [if_pos c, y3 z (by omega) c]
            · rw [if_neg c, y4 z (by omega), x5 z hz]
        · obtain ⟨so', sz', v1, v2, v3, v4, v5, v6, v7⟩ := h.2.2.2.2.2.1 t ht
          refine ⟨so', sz', v1, v2, ?_, ?_, ?_, ?_, fun z hz => ?_⟩
          · rw [y2 _ (by omega) (by omega) (by omega) (by omega) (by omega), x2 _ (by omega) (by omega)]; exact v3
          · rw [z2 66 (by decide) (by decide) (by decide) (by decide) (by decide), g_k _ _ (by decide), g_j _ _ e]; exact v4
          · rw [y2 _ (by omega) (by omega) (by omega) (by omega) (by omega), x2 _ (by omega) (by omega)]; exact v5
          · rw [z2 67 (by decide) (by decide) (by decide) (by decide) (by decide), g_j _ _ e, g_k _ _ (by decide)]; exact v6
          · rw [y2 _ (by omega) (by omega) (by omega) (by omega) (by omega), x2 _ (by omega) (by omega), z5 _ (by omega), g_k _ _ (by decide), g_k _ _ (by decide)]; exact v7 z hz
