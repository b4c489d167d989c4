/-! sheet, cell -/
theorem Rl.sheet {X M X' M' : ow_S} (h : Rl X M) (a : ∀ c, ¬(48 ≤ c ∧ c < 56) → X'.1 c = X.1 c) (b : ∀ c, c ≠ 66 → c ≠ 67 → c ≠ 68 → M'.1 c = M.1 c) (hS : rlS X'.1 M'.1) : Rl X' M' := by
  obtain ⟨h1, h2, h3, h4, h5, h6, h7⟩ := h
  have e0 := a 0 (by omega)
  have e56 := b 56 (by decide) (by decide) (by decide)
  exact ⟨h1.fr (by rw [e0]) (a 1 (by omega)) (a 2 (by omega)) (by rw [e56]) (by rw [e56]) (b 57 (by decide) (by decide) (by decide)), h2.fr (by rw [e0]) (fun c _ _ => a c (by omega)) (by rw [e56]) (b 58 (by decide) (by decide) (by decide)) (b 59 (by decide) (by decide) (by decide)) (b 60 (by decide) (by decide) (by decide)), h3.fr (by rw [e0]) (by rw [e0]) (fun c _ _ => a c (by omega)) (by rw [e56]) (by rw [e56]) (b 62 (by decide) (by decide) (by decide)) (b 63 (by decide) (by decide) (by decide)), h4.fr (by rw [a 7 (by omega)]) (a 8 (by omega)) (by rw [e56]) (b 61 (by decide) (by decide) (by decide)), h5.fr (b 70 (by decide) (by decide) (by decide)), hS, h7.fr (by rw [e0]) (by rw [e0]) (fun c _ _ => a c (by omega)) (fun c _ _ => by rw [a c (by omega)]; exact ⟨rfl, rfl⟩) (fun z _ _ => by rw [e56]) (b 64 (by decide) (by decide) (by decide)) (b 65 (by decide) (by decide) (by decide))⟩
theorem s_isSheet (fu : Nat) (a : Int32) (X : ow_S) : f_X8_isSheet fu a X = some (inb a 0 3, X) := by
  unfold inb
  rw [f_X8_isSheet]
  by_cases c0 : a < 0
  · rw [if_pos c0, if_pos c0]
  · rw [if_neg c0, if_neg c0]
    obtain ⟨j, hj, rfl⟩ := n_of c0
    have e1 : (4 : Int32) ≤ nI j ↔ 4 ≤ j := n_le (a := 4) (by decide) hj
    have e2 : (3 : Int32) < nI j ↔ 3 < j := n_lt (a := 3) (by decide) hj
    simp only [e1, e2]
    by_cases c : 4 ≤ j
    · rw [if_pos c, if_pos (by omega)]
    · rw [if_neg c, if_neg (by omega)]
theorem s_zero_x (fu : Nat) {h : Nat} : ∀ (q i fn : Nat) (X : ow_S), i + q = 40 → q < fn → ∃ X', L_X5_become_21 fu fn h (nI i) X = some X' ∧ (∀ c, c ≠ h + 1 → X'.1 c = X.1 c) ∧ (∀ z, i ≤ z → z < 40 → X'.1 (h + 1) z = 0) ∧ ∀ z, z < i → X'.1 (h + 1) z = X.1 (h + 1) z := by
  intro q
  induction q with
  | zero =>
    intro i fn X hi hf
    obtain ⟨fn, rfl⟩ : ∃ q, fn = q + 1 := ⟨fn - 1, by omega⟩
    refine ⟨X, ?_, fun _ _ => rfl, fun z h1 h2 => by omega, fun _ _ => rfl⟩
    rw [L_X5_become_21, if_pos (by rw [show (40 : Int32) = nI 40 from rfl, n_le (by omega) (by omega)]; omega)]
  | succ q ih =>
    intro i fn X hi hf
    obtain ⟨fn, rfl⟩ : ∃ q, fn = q + 1 := ⟨fn - 1, by omega⟩
    obtain ⟨X', a, b, c, d⟩ := ih (i + 1) fn (ow_sI X (h + 1) i 0) (by omega) (by omega)
    refine ⟨X', ?_, fun k hk => by rw [b k hk, g_k _ _ hk], fun z h1 h2 => ?_, fun z hz => by rw [d z (by omega), g_j _ _ (by omega)]⟩
    · rw [L_X5_become_21, if_neg (by rw [show (40 : Int32) = nI 40 from rfl, n_le (by omega) (by omega)]; omega), e_ckn _ (by omega) (by omega), n_cl (a := i) (by omega), e_let, e_let, show (1 : Int32) = nI 1 from rfl, n_add, a]
    · by_cases e : z = i
      · subst e; rw [d z (by omega), g_same]
      · exact c z (by omega) h2
theorem s_zero_m (fu : Nat) {s : Nat} (hs : s < 4) : ∀ (q i fn : Nat) (M : ow_S), i + q = 40 → q < fn → ∃ M', L_X9_sheet_70 fu fn (nI s) (nI i) M = some (1, M') ∧ (∀ c, c ≠ 68 → M'.1 c = M.1 c) ∧ (∀ z, i ≤ z → z < 40 → M'.1 68 (40 * s + z) = 0) ∧ ∀ z, ¬(40 * s + i ≤ z ∧ z < 40 * s + 40) → M'.1 68 z = M.1 68 z := by
  intro q
  induction q with
  | zero =>
    intro i fn M hi hf
    obtain ⟨fn, rfl⟩ : ∃ q, fn = q + 1 := ⟨fn - 1, by omega⟩
    refine ⟨M, ?_, fun _ _ => rfl, fun z h1 h2 => by omega, fun _ _ => rfl⟩
    rw [L_X9_sheet_70, if_pos (by rw [show (40 : Int32) = nI 40 from rfl, n_le (by omega) (by omega)]; omega)]
  | succ q ih =>
    intro i fn M hi hf
    obtain ⟨fn, rfl⟩ : ∃ q, fn = q + 1 := ⟨fn - 1, by omega⟩
    obtain ⟨M', a, b, c, d⟩ := ih (i + 1) fn (ow_sI M 68 (40 * s + i) 0) (by omega) (by omega)
    refine ⟨M', ?_, fun k hk => by rw [b k hk, g_k _ _ hk], fun z h1 h2 => ?_, fun z hz => by rw [d z (by omega), g_j _ _ (by omega)]⟩
    · rw [L_X9_sheet_70, if_neg (by rw [show (40 : Int32) = nI 40 from rfl, n_le (by omega) (by omega)]; omega), show (40 : Int32) * nI s = nI (40 * s) from n_mul 40 s, n_add, e_ckn _ (by omega) (by omega), n_cl (a := 40 * s + i) (by omega), e_let, e_let, show (1 : Int32) = nI 1 from rfl, n_add]
      exact a
    · by_cases e : z = i
      · subst e; rw [d _ (by omega), g_same]
      · exact c z (by omega) h2
/-- a sort: -1, 0, 1, 2 -/
theorem s_sort (a : Int32) (h1 : ¬ a < -1) (h2 : ¬ (2 : Int32) < a) : ∃ so : Nat, so < 4 ∧ a = nI so - 1 := by
  by_cases c : a < 0
  · refine ⟨0, by decide, ?_⟩
    have e1 : -1 ≤ a.toInt := by
      have := fun hh => h1 (Int32.lt_iff_toInt_lt.mpr hh)
      simpa using this
    have e2 : a.toInt < 0 := by
      have := Int32.lt_iff_toInt_lt.mp c
      simpa using this
    apply Int32.toInt_inj.mp
    rw [show (nI 0 - 1 : Int32).toInt = -1 from rfl]; omega
  · obtain ⟨j, hj, rfl⟩ := n_of c
    refine ⟨j + 1, ?_, ?_⟩
    · rw [show (2 : Int32) = nI 2 from rfl, n_lt (by decide) hj] at h2; omega
    · rw [show (1 : Int32) = nI 1 from rfl, n_sub (by omega), Nat.add_sub_cancel]
theorem s_become5 (fu : Nat) (hfu : 1000 ≤ fu) {h sz : Nat} (hsz : sz ≤ 40) (so : Int32) (X : ow_S) : ∃ X', f_X5_become fu h so (nI sz) X = some X' ∧ (∀ c, c ≠ h → c ≠ h + 1 → X'.1 c = X.1 c) ∧ X'.1 h 1 = so ∧ X'.1 h 2 = nI sz ∧ ∀ z, z < 40 → X'.1 (h + 1) z = 0 := by
  have hm : ow_max (0 : Int32) (ow_min (40 : Int32) (nI sz)) = nI sz := by
    unfold ow_max ow_min
    have e3 : nI sz < (40 : Int32) ↔ sz < 40 := n_lt (b := 40) (by omega) (by decide)
    have f4 : (0 : Int32) < nI sz ↔ 0 < sz := n_lt (a := 0) (by decide) (by omega)
    have hmin : (if nI sz < (40 : Int32) then nI sz else 40) = nI sz := by
      simp only [e3]
      by_cases g : sz < 40
      · rw [if_pos g]
      · rw [if_neg g, show sz = 40 by omega]; rfl
    rw [hmin]
    simp only [f4]
    by_cases g : 0 < sz
    · rw [if_pos g]
    · rw [if_neg g, show sz = 0 by omega]; rfl
  obtain ⟨X', a, b, c, d⟩ := s_zero_x fu (h := h) 40 0 fu (ow_sI (ow_sI X h 1 so) h 2 (nI sz)) (by omega) (by omega)
  refine ⟨X', ?_, fun k h1 h2 => by rw [b k h2, g_k _ _ h1, g_k _ _ h1], ?_, ?_, fun z hz => c z (by omega) hz⟩
  · rw [f_X5_become, hm, e_let, e_let]; exact a
  · rw [b h (by omega), g_j _ _ (show 1 ≠ 2 by decide), g_same]
  · rw [b h (by omega), g_same]
theorem o_sheet (fu : Nat) (hfu : 1000 ≤ fu) (a1 a2 a3 : Int32) : sameI (f_X8_sheet fu a1 a2 a3) (f_X9_sheet fu a1 a2 a3) := by
  intro X M h
  have stop : ∀ v : Int32, ∃ r X' M', some (v, X) = some (r, X') ∧ some (v, M) = some (r, M') ∧ Rl X' M' := fun v => ⟨_, _, _, rfl, rfl, h⟩
  rw [f_X8_sheet, f_X9_sheet, s_isSheet, s_inb, e_cl, e_cl]
  rcases inb_cases (v := a1) (a := 0) (b := 3) (by decide) (by decide) with i1 | ⟨i1, s, s1, s2, rfl⟩
  · rw [show inb a1 0 3 = 0 from i1, if_pos rfl, if_pos rfl]; exact stop _
  rw [show inb (nI s) 0 3 = 1 from i1, if_neg (show ¬ (1 : Int32) = 0 by decide), if_neg (show ¬ (1 : Int32) = 0 by decide), s_inb, e_cl]
  by_cases c1 : a2 < -1
  · rw [if_pos c1, show inb a2 (-1) 2 = 0 by unfold inb; rw [if_pos c1], if_pos rfl]; exact stop _
  rw [if_neg c1]
  by_cases c2 : (2 : Int32) < a2
  · rw [if_pos c2, show inb a2 (-1) 2 = 0 by unfold inb; rw [if_neg c1, if_pos c2], if_pos rfl]; exact stop _
  rw [if_neg c2, show inb a2 (-1) 2 = 1 by unfold inb; rw [if_neg c1, if_neg c2], if_neg (show ¬ (1 : Int32) = 0 by decide)]
  obtain ⟨so, hso, rfl⟩ := s_sort a2 c1 c2
  have put : ∀ sz : Nat, sz ≤ 40 → ∃ r X' M', L_X8_sheet_60 fu (48 + 2 * s) (nI so - 1) (nI sz) X = some (r, X') ∧ L_X9_sheet_66 fu (nI s) (nI s) (nI sz) (ow_sI M 66 s (nI so - 1)) = some (r, M') ∧ Rl X' M' := by
    intro sz hsz
    obtain ⟨X1, x1, x2, x3, x4, x5⟩ := s_become5 fu hfu (h := 48 + 2 * s) hsz (nI so - 1) X
    obtain ⟨M1, m1, m2, m3, m4⟩ := s_zero_m fu (s := s) (by omega) 40 0 fu (ow_sI (ow_sI M 66 s (nI so - 1)) 67 s (nI sz)) (by omega) (by omega)
    refine ⟨1, X1, M1, by rw [L_X8_sheet_60, x1, e_cv], ?_, h.sheet (fun c hc => x2 c (by omega) (by omega)) (fun c a b d => by rw [m2 c d, g_k _ _ b, g_k _ _ a]) (fun t ht => ?_)⟩
    · rw [L_X9_sheet_66, e_ckn _ (by omega) (by omega), n_cl (a := s) (by omega), e_let, show (0 : Int32) = nI 0 from rfl]; exact m1
    · by_cases e : t = s
      · subst e
        refine ⟨so, sz, hso, hsz, x3, ?_, x4, ?_, fun j hj => ?_⟩
        · rw [m2 66 (by decide), g_k _ _ (show 66 ≠ 67 by decide), g_same]
        · rw [m2 67 (by decide), g_same]
        · rw [x5 j hj, m3 j (by omega) hj]
      · obtain ⟨so', sz', w1, w2, w3, w4, w5, w6, w7⟩ := h.2.2.2.2.2.1 t ht
        refine ⟨so', sz', w1, w2, ?_, ?_, ?_, ?_, fun j hj => ?_⟩
        · rw [x2 _ (by omega) (by omega)]; exact w3
        · rw [m2 66 (by decide), g_k _ _ (show 66 ≠ 67 by decide), g_j _ _ e]; exact w4
        · rw [x2 _ (by omega) (by omega)]; exact w5
        · rw [m2 67 (by decide), g_j _ _ e, g_k _ _ (show 67 ≠ 66 by decide)]; exact w6
        · rw [x2 _ (by omega) (by omega), m4 _ (by omega), g_k _ _ (show 68 ≠ 67 by decide), g_k _ _ (show 68 ≠ 66 by decide)]; exact w7 j hj
  have red8 : ∀ K : Int32, L_X8_sheet_43 fu (nI s) (nI so - 1) K X = if nI so - 1 = (-1 : Int32) then L_X8_sheet_60 fu (48 + 2 * s) (nI so - 1) 0 X else L_X8_sheet_60 fu (48 + 2 * s) (nI so - 1) K X := fun K => by
    rw [L_X8_sheet_43, e_ckn _ (by omega) (by omega), n_cl (a := s) (by omega), e_let]
  have red9 : ∀ K : Int32, L_X9_sheet_44 fu (nI s) (nI so - 1) K M = if nI so - 1 = (-1 : Int32) then L_X9_sheet_66 fu (nI s) (nI s) 0 (ow_sI M 66 s (nI so - 1)) else L_X9_sheet_66 fu (nI s) (nI s) K (ow_sI M 66 s (nI so - 1)) := fun K => by
    rw [L_X9_sheet_44, e_ckn _ (by omega) (by omega), n_cl (a := s) (by omega), e_let]
  by_cases cm : nI so - 1 = (-1 : Int32)
  · rw [if_pos cm, if_pos cm, L_X8_sheet_31, L_X9_sheet_32, if_pos cm, if_pos cm, red8, red9, if_pos cm, if_pos cm]
    exact put 0 (by decide)
  · rw [if_neg cm, if_neg cm]
    by_cases c4 : a3 ≤ 40
    · rw [if_pos c4, if_pos c4, L_X8_sheet_31, L_X9_sheet_32, if_neg cm, if_neg cm]
      by_cases c5 : 0 ≤ a3
      · obtain ⟨sz, hsz, rfl⟩ := n_of (Int32.not_lt.mpr c5)
        rw [if_pos c5, if_pos c5, red8, red9, if_neg cm, if_neg cm]
        exact put sz ((n_le (b := 40) hsz (by decide)).mp c4)
      · rw [if_neg c5, if_neg c5]; exact stop _
    · rw [if_neg c4, if_neg c4]; exact stop _
