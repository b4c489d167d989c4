/-! heads: head, set; asks, keep -/
theorem Rl.head {X M X' M' : ow_S} (h : Rl X M) (a : ∀ c, c ≠ 0 → ¬(25 ≤ c ∧ c < 30) → X'.1 c = X.1 c) (a' : ∀ z, z ≠ 12 → X'.1 0 z = X.1 0 z) (b : ∀ c, c ≠ 56 → c ≠ 58 → c ≠ 59 → c ≠ 60 → M'.1 c = M.1 c) (b' : ∀ z, z ≠ 3 → M'.1 56 z = M.1 56 z) (hH : rlH X'.1 M'.1) (hI : rlI X'.1 M'.1) : Rl X' M' := by
  obtain ⟨h1, h2, h3, h4, h5, h6, h7⟩ := h
  exact ⟨h1.fr (a' 11 (by omega)) (a 1 (by omega) (by omega)) (a 2 (by omega) (by omega)) (b' 0 (by omega)) (b' 2 (by omega)) (b 57 (by omega) (by omega) (by omega) (by omega)), hH, h3.fr (a' 13 (by omega)) (a' 14 (by omega)) (fun c _ _ => a c (by omega) (by omega)) (b' 11 (by omega)) (b' 12 (by omega)) (b 62 (by omega) (by omega) (by omega) (by omega)) (b 63 (by omega) (by omega) (by omega) (by omega)), h4.fr (by rw [a 7 (by omega) (by omega)]) (a 8 (by omega) (by omega)) (b' 8 (by omega)) (b 61 (by omega) (by omega) (by omega) (by omega)), h5.fr (b 70 (by omega) (by omega) (by omega) (by omega)), h6.fr (fun c _ _ => a c (by omega) (by omega)) (b 66 (by omega) (by omega) (by omega) (by omega)) (b 67 (by omega) (by omega) (by omega) (by omega)) (b 68 (by omega) (by omega) (by omega) (by omega)), hI⟩
/-- a bound from below and above, both sides -/
def inb (v a b : Int32) : Int32 := if v < a then 0 else if b < v then 0 else 1
theorem s_isBits (fu : Nat) (v : Int32) (σ : ow_S) : f_X8_isBits fu v σ = some (inb v 1 16, σ) := by
  rw [f_X8_isBits, inb]
  by_cases h1 : v < 1
  · rw [if_pos h1, if_pos h1]
  · rw [if_neg h1, if_neg h1]
    by_cases h2 : (16 : Int32) < v
    · rw [if_pos h2, if_pos h2]
    · rw [if_neg h2, if_neg h2]
theorem s_isNumber (fu : Nat) (v : Int32) (σ : ow_S) : f_X8_isNumber fu v σ = some (inb v 0 65535, σ) := by
  rw [f_X8_isNumber, inb]
  by_cases h1 : v < 0
  · rw [if_pos h1, if_pos h1]
  · rw [if_neg h1, if_neg h1]
    by_cases h2 : (65535 : Int32) < v
    · rw [if_pos h2, if_pos h2]
    · rw [if_neg h2, if_neg h2]
theorem s_inb (fu : Nat) (v a b : Int32) (σ : ow_S) : f_X9_in fu v a b σ = some (inb v a b, σ) := s_in fu v a b σ
theorem inb_cases {v : Int32} {a b : Nat} (ha : a < 2 ^ 31) (hb : b < 2 ^ 31) : inb v (nI a) (nI b) = 0 ∨ (inb v (nI a) (nI b) = 1 ∧ ∃ j : Nat, a ≤ j ∧ j ≤ b ∧ v = nI j) := by
  unfold inb
  by_cases h1 : v < nI a
  · rw [if_pos h1]; exact Or.inl rfl
  · rw [if_neg h1]
    by_cases h2 : nI b < v
    · rw [if_pos h2]; exact Or.inl rfl
    · rw [if_neg h2]
      refine Or.inr ⟨rfl, ?_⟩
      have h0 : ¬ v < 0 := fun hv => h1 (Int32.lt_of_lt_of_le hv (by rw [show (0 : Int32) = nI 0 from rfl, n_le (by decide) ha]; omega))
      obtain ⟨j, hj, rfl⟩ := n_rng hb h0 h2
      exact ⟨j, by rw [n_lt (by omega) ha] at h1; omega, hj, rfl⟩
theorem o_head (fu : Nat) (a1 a2 a3 : Int32) : sameI (f_X8_head fu a1 a2 a3) (f_X9_head fu a1 a2 a3) := by
  intro X M h
  have stop : ∀ v : Int32, ∃ r X' M', some (v, X) = some (r, X') ∧ some (v, M) = some (r, M') ∧ Rl X' M' := fun v => ⟨_, _, _, rfl, rfl, h⟩
  obtain ⟨hc, q1, q2, q3, q4⟩ := h.2.1
  rw [f_X8_head, f_X9_head, s_in, e_cl]
  by_cases c0 : a1 < 0
  · rw [if_pos c0, if_pos c0, if_pos rfl]; exact stop _
  rw [if_neg c0, if_neg c0]
  obtain ⟨j, hj, rfl⟩ := n_of c0
  have ed : nI j / (10 : Int32) = nI (j / 10) := n_div (b := 10) hj (by decide) (by decide)
  have er : ow_irem (nI j) (10 : Int32) = nI (j % 10) := n_rem (b := 10) hj (by decide) (by decide)
  have e1 : (5 : Int32) < nI (j / 10) ↔ 59 < j := (n_lt (a := 5) (by decide) (by omega)).trans (by omega)
  have e2 : (59 : Int32) < nI j ↔ 59 < j := n_lt (a := 59) (by decide) hj
  simp only [ed, er, s_isBits, s_isNumber, s_inb, e1, e2, e_cl]
  by_cases c1 : 59 < j
  · rw [if_pos c1, if_pos c1, if_pos rfl]; exact stop _
  rw [if_neg c1, if_neg c1, if_neg (show ¬ (1 : Int32) = 0 by decide)]
  rcases inb_cases (v := a2) (a := 1) (b := 16) (by decide) (by decide) with i2 | ⟨i2, b, b1, b2, rfl⟩
  · rw [show inb a2 1 16 = 0 from i2, if_pos rfl, if_pos rfl]; exact stop _
  rw [show inb (nI b) 1 16 = 1 from i2, if_neg (show ¬ (1 : Int32) = 0 by decide), if_neg (show ¬ (1 : Int32) = 0 by decide)]
  rcases inb_cases (v := a3) (a := 0) (b := 65535) (by decide) (by decide) with i3 | ⟨i3, f, f1, f2, rfl⟩
  · rw [show inb a3 0 65535 = 0 from i3, if_pos rfl, if_pos rfl]; exact stop _
  rw [show inb (nI f) 0 65535 = 1 from i3, if_neg (show ¬ (1 : Int32) = 0 by decide), if_neg (show ¬ (1 : Int32) = 0 by decide), q2, q3]
  have e3 : nI hc < (5 : Int32) ↔ hc < 5 := n_lt (b := 5) (by omega) (by decide)
  have e4 : nI hc = (5 : Int32) ↔ hc = 5 := n_eq (b := 5) (by omega) (by decide)
  simp only [e3, e4]
  by_cases c5 : hc < 5
  · rw [if_pos c5, if_neg (show ¬ hc = 5 by omega), e_ckn _ (by omega) c5, e_ckn _ (by omega) c5, n_cl (a := hc) (by omega)]
    simp only [e_let]
    have k56 : ∀ (Y : ow_S) (c j : Nat) (v : Int32), 56 ≠ c → (ow_sI Y c j v).1 56 3 = Y.1 56 3 := fun Y c j v hc => by rw [g_k _ _ hc]
    have k0 : ∀ (Y : ow_S) (j : Nat) (v : Int32), (ow_sI Y (25 + hc) j v).1 0 12 = Y.1 0 12 := fun Y j v => by rw [g_k _ _ (show 0 ≠ 25 + hc by omega)]
    simp only [k0, q2, k56 _ 58 _ _ (by decide), k56 _ 59 _ _ (by decide), k56 _ 60 _ _ (by decide), q3, g_same, show nI hc + (1 : Int32) = nI (hc + 1) from n_add hc 1, show (3 : Int32) * nI hc = nI (3 * hc) from n_mul 3 hc, show nI (3 * hc) + (1 : Int32) = nI (3 * hc + 1) from n_add _ 1, show nI (3 * hc) + (2 : Int32) = nI (3 * hc + 2) from n_add _ 2, n_cl (a := hc) (by omega), n_cl (a := 3 * hc) (by omega), n_cl (a := 3 * hc + 1) (by omega), n_cl (a := 3 * hc + 2) (by omega)]
    rw [e_ckn _ (by omega) c5, e_ckn _ (by omega) (by omega), e_ckn _ (by omega) (by omega), e_ckn _ (by omega) (by omega)]
    refine ⟨_, _, _, rfl, rfl, h.head (fun c h1 h2 => ?_) (fun z hz => ?_) (fun c h1 h2 h3 h4 => ?_) (fun z hz => ?_) ⟨hc + 1, by omega, g_same _ _ _ _, g_same _ _ _ _, fun i hi => ?_⟩ ?_⟩
    · rw [g_k _ _ h1]; (repeat rw [g_k _ _ (show c ≠ 25 + hc by omega)])
    · rw [g_j _ _ hz]; (repeat rw [g_k _ _ (show 0 ≠ 25 + hc by omega)])
    · rw [g_k _ _ h1, g_k _ _ h4, g_k _ _ h4, g_k _ _ h4, g_k _ _ h3, g_k _ _ h2]
    · rw [g_j _ _ hz, g_k _ _ (show 56 ≠ 60 by decide), g_k _ _ (show 56 ≠ 60 by decide), g_k _ _ (show 56 ≠ 60 by decide), g_k _ _ (show 56 ≠ 59 by decide), g_k _ _ (show 56 ≠ 58 by decide)]
    · by_cases e : i < hc
      · obtain ⟨k, mo, bb, ff, ss, hx, hm, hr⟩ := q4 i e
        refine ⟨k, mo, bb, ff, ss, ?_, ?_, hr⟩
        · unfold x_head at hx ⊢
          rw [g_k _ _ (show 25 + i ≠ 0 by omega)]
          (repeat rw [g_k _ _ (show 25 + i ≠ 25 + hc by omega)])
          exact hx
        · unfold m_head at hm ⊢
          simp only [g_if, show (58 : Nat) ≠ 56 by decide, show (58 : Nat) ≠ 60 by decide, show (58 : Nat) ≠ 59 by decide, show (59 : Nat) ≠ 56 by decide, show (59 : Nat) ≠ 60 by decide, show (59 : Nat) ≠ 58 by decide, show (60 : Nat) ≠ 56 by decide, show (60 : Nat) ≠ 59 by decide, show (60 : Nat) ≠ 58 by decide, if_false, if_true, show i ≠ hc by omega, show 3 * i ≠ 3 * hc + 2 by omega, show 3 * i ≠ 3 * hc + 1 by omega, show 3 * i ≠ 3 * hc by omega, show 3 * i + 1 ≠ 3 * hc + 2 by omega, show 3 * i + 1 ≠ 3 * hc + 1 by omega, show 3 * i + 1 ≠ 3 * hc by omega, show 3 * i + 2 ≠ 3 * hc + 2 by omega, show 3 * i + 2 ≠ 3 * hc + 1 by omega, show 3 * i + 2 ≠ 3 * hc by omega]
          exact hm
      · obtain rfl : i = hc := by omega
        refine ⟨j / 10, j % 10, b, f, 0, ?_, ?_, b1, b2, by omega, by decide⟩
        · unfold x_head
          simp only [g_if, show 25 + i ≠ 0 by omega, if_false, if_true]
          refine ⟨?_, ?_, ?_, ?_, ?_, by omega, by omega⟩ <;> first | rfl | (simp; done) | (simp; rfl)
        · unfold m_head
          refine ⟨?_, ?_, ?_, ?_, ?_, by omega, by omega⟩ <;> first | rfl | (simp [g_if]; done) | (simp [g_if]; rfl)
    · obtain ⟨th, u1, u2, u3, u⟩ := h.2.2.2.2.2.2
      have xc : ∀ c, c ≠ 0 → c ≠ 25 + hc → ∀ (v0 v1 v2 v3 v4 v5 : Int32), (ow_sI (ow_sI (ow_sI (ow_sI (ow_sI (ow_sI X (25 + hc) 0 v0) (25 + hc) 1 v1) (25 + hc) 2 v2) (25 + hc) 3 v3) (25 + hc) 4 v4) 0 12 v5).1 c = X.1 c := by
        intro c h1 h2 v0 v1 v2 v3 v4 v5
        rw [g_k _ _ h1, g_k _ _ h2, g_k _ _ h2, g_k _ _ h2, g_k _ _ h2, g_k _ _ h2]
      refine ⟨th, u1, by rw [xc 16 (by omega) (by omega)]; exact u2, ?_, fun hth => ?_⟩
      · simp only [g_if, show (56 : Nat) ≠ 60 by decide, show (56 : Nat) ≠ 59 by decide, show (56 : Nat) ≠ 58 by decide, if_false, if_true, show (13 : Nat) ≠ 3 by decide]; exact u3
      · obtain ⟨P, l, ih, il, hc', tc', v1, v2, v3, v4, v5, v6, v7, v8, v9, v10, v11, v12, v13, v14, v15, v16, v17, v18, v19⟩ := u hth
        have ehc : hc' = hc := by
          rw [q2] at v13
          exact ((n_eq (by omega) (by omega)).mp v13).symm
        subst ehc
        refine ⟨P, l, ih, il, hc' + 1, tc', v1, v2, by rw [xc 16 (by omega) (by omega)]; exact v3, ?_, ?_, ?_, ?_, v8, by rw [xc 16 (by omega) (by omega)]; exact v9, ?_, by rw [xc 16 (by omega) (by omega)]; exact v11, ?_, g_same _ _ _ _, by omega, by omega, ?_, v17, v18, fun i hi => ?_⟩
        · simp only [g_if, show (56 : Nat) ≠ 60 by decide, show (56 : Nat) ≠ 59 by decide, show (56 : Nat) ≠ 58 by decide, if_false, if_true, show (14 : Nat) ≠ 3 by decide]; exact v4
        · unfold x_row at v5 ⊢; rw [xc 17 (by omega) (by omega), xc (17 + 1) (by omega) (by omega)]; exact v5
        · simp only [g_if, show (56 : Nat) ≠ 60 by decide, show (56 : Nat) ≠ 59 by decide, show (56 : Nat) ≠ 58 by decide, if_false, if_true, show (15 : Nat) ≠ 3 by decide]; exact v6
        · simp only [g_if, show (64 : Nat) ≠ 60 by decide, show (64 : Nat) ≠ 59 by decide, show (64 : Nat) ≠ 58 by decide, show (64 : Nat) ≠ 56 by decide, if_false]; exact v7
        · simp only [g_if, show (56 : Nat) ≠ 60 by decide, show (56 : Nat) ≠ 59 by decide, show (56 : Nat) ≠ 58 by decide, if_false, if_true, show (16 : Nat) ≠ 3 by decide]; exact v10
        · simp only [g_if, show (56 : Nat) ≠ 60 by decide, show (56 : Nat) ≠ 59 by decide, show (56 : Nat) ≠ 58 by decide, if_false, if_true, show (17 : Nat) ≠ 3 by decide]; exact v12
        · rw [g_j _ _ (show 13 ≠ 12 by decide)]
          (repeat rw [g_k _ _ (show 0 ≠ 25 + hc' by omega)])
          exact v16
        · obtain ⟨b0, f0, s0, w⟩ := v19 i hi
          refine ⟨b0, f0, s0, ?_⟩
          rw [xc (20 + i) (by omega) (by omega), xc (25 + i) (by omega) (by omega)]
          simp only [g_if, show (65 : Nat) ≠ 60 by decide, show (65 : Nat) ≠ 59 by decide, show (65 : Nat) ≠ 58 by decide, show (65 : Nat) ≠ 56 by decide, if_false]; exact w
  · rw [if_neg c5, if_pos (show hc = 5 by omega)]; exact stop _
theorem s_law (fu : Nat) {X : ow_S} {law : Nat} (hl : law < 6) (r5 : X.1 0 14 = nI law) : f_X8_lawText fu X = some (30 + 3 * law, X) := by
  rw [f_X8_lawText, r5, if_neg (nI_pos (by omega)), if_neg (by rw [show (6 : Int32) = nI 6 from rfl, n_le (by decide) (by omega)]; omega), e_ckn _ (by omega) (by omega), n_cl (a := law) (by omega), e_let]
theorem o_asks (fu : Nat) (hfu : 1000 ≤ fu) (a1 a2 a3 a4 : Int32) : sameI (f_X8_asks fu a1 a2 a3 a4) (f_X9_asks fu a1 a2 a3 a4) := by
  intro X M h
  have stop : ∃ r X' M', some ((-2 : Int32), X) = some (r, X') ∧ some ((-2 : Int32), M) = some (r, M') ∧ Rl X' M' := ⟨_, _, _, rfl, rfl, h⟩
  obtain ⟨P, l, p1, p2, p3, p4, p5, p6, p7, p8⟩ := h.1
  obtain ⟨tc, law, r1, r2, r3, r4, r5, r6, r7⟩ := h.2.2.1
  obtain ⟨T, t1, t2⟩ := r7 law r2
  rw [f_X8_asks, f_X9_asks, e_let, e_let]
  simp only [s_isNumber, s_inb, e_cl, L_X9_asks_56]
  have z0 : ∀ x, L_X9_asks_57 fu a1 a2 a3 a4 0 x = some (-2, x) := fun x => by rw [L_X9_asks_57, if_pos rfl]
  simp only [z0]
  rcases inb_cases (v := a1) (a := 0) (b := 2) (by decide) (by decide) with i1 | ⟨i1, p, q1, q2, rfl⟩
  · rw [show inb a1 0 2 = 0 from i1, if_pos rfl]
    by_cases c0 : a1 < 0
    · rw [if_pos c0]; exact stop
    · rw [if_neg c0]
      obtain ⟨j, hj, rfl⟩ := n_of c0
      have : (3 : Int32) ≤ nI j := by
        rw [show (3 : Int32) = nI 3 from rfl, n_le (by decide) hj]
        unfold inb at i1
        rw [if_neg (show ¬ nI j < nI 0 from nI_pos hj)] at i1
        by_cases c : nI 2 < nI j
        · rw [n_lt (by decide) hj] at c; omega
        · rw [if_neg c] at i1; exact absurd i1 (by decide)
      rw [if_pos this]; exact stop
  rw [show inb (nI p) 0 2 = 1 from i1, if_neg (nI_pos (by omega)), if_neg (by rw [show (3 : Int32) = nI 3 from rfl, n_le (by decide) (by omega)]; omega), if_neg (show ¬ (1 : Int32) = 0 by decide)]
  rcases inb_cases (v := a2) (a := 0) (b := 65535) (by decide) (by decide) with i2 | ⟨i2, b, b1, b2, rfl⟩
  · rw [show inb a2 0 65535 = 0 from i2, if_pos rfl, if_pos rfl]; exact stop
  rw [show inb (nI b) 0 65535 = 1 from i2, if_neg (show ¬ (1 : Int32) = 0 by decide), if_neg (show ¬ (1 : Int32) = 0 by decide)]
  rcases inb_cases (v := a3) (a := 0) (b := 65535) (by decide) (by decide) with i3 | ⟨i3, f, f1, f2, rfl⟩
  · rw [show inb a3 0 65535 = 0 from i3, if_pos rfl, if_pos rfl]; exact stop
  rw [show inb (nI f) 0 65535 = 1 from i3, if_neg (show ¬ (1 : Int32) = 0 by decide), if_neg (show ¬ (1 : Int32) = 0 by decide)]
  by_cases c4 : a4 < 0
  · rw [if_pos c4, show inb a4 0 52599 = 0 by unfold inb; rw [if_pos c4], if_pos rfl]; exact stop
  rw [if_neg c4]
  obtain ⟨v, hv, rfl⟩ := n_of c4
  have e1 : nI v / (1000 : Int32) = nI (v / 1000) := n_div (b := 1000) hv (by decide) (by decide)
  have e2 : ow_irem (nI v / (10 : Int32)) (100 : Int32) = nI (v / 10 % 100) := by
    rw [show nI v / (10 : Int32) = nI (v / 10) from n_div (b := 10) hv (by decide) (by decide)]
    exact n_rem (b := 100) (by omega) (by decide) (by decide)
  have e3 : ow_irem (nI v) (1000 : Int32) = nI (v % 1000) := n_rem (b := 1000) hv (by decide) (by decide)
  have e4 : ow_irem (nI v) (10 : Int32) = nI (v % 10) := n_rem (b := 10) hv (by decide) (by decide)
  have k1 : (52 : Int32) < nI (v / 1000) ↔ 52 < v / 1000 := n_lt (a := 52) (by decide) (by omega)
  have k2 : nI (v / 10 % 100) < (60 : Int32) ↔ v / 10 % 100 < 60 := n_lt (b := 60) (by omega) (by decide)
  have k3 : (600 : Int32) ≤ nI (v % 1000) ↔ 600 ≤ v % 1000 := n_le (a := 600) (by decide) (by omega)
  have k4 : inb (nI v) 0 52599 = if 52599 < v then 0 else 1 := by
    unfold inb
    have : (52599 : Int32) < nI v ↔ 52599 < v := n_lt (a := 52599) (by decide) hv
    rw [if_neg c4]; simp only [this]
  simp only [e1, e2, e3, e4, k1, k2, k3, k4]
  by_cases good : v / 1000 ≤ 52 ∧ v / 10 % 100 < 60
  · rw [if_neg (show ¬ 52 < v / 1000 by omega), if_pos good.2, if_neg (show ¬ 52599 < v by omega), if_neg (show ¬ (1 : Int32) = 0 by decide), if_neg (show ¬ 600 ≤ v % 1000 by omega), s_law fu (by omega) r5, e_cl, L_X9_asks_57, if_neg (show ¬ (1 : Int32) = 0 by decide), e1, e2, e4, p3]
    have s1 : f_X7_setOut fu (30 + 3 * law) (nI P) (nI (v % 10)) X = some (ow_sI (ow_sI (ow_sR X 10 2 (some (30 + 3 * law))) 11 4 (nI P)) 11 5 (nI (v % 10))) := rfl
    have s2 : ∀ Y : ow_S, f_X7_keepBoth fu (nI b) (nI f) Y = some (ow_sI (ow_sI Y 11 0 (nI b)) 11 1 (nI f)) := fun Y => rfl
    have s3 : ∀ Y : ow_S, f_X7_meet fu (nI (v / 1000)) (nI (v / 10 % 100)) Y = some (ow_sI (ow_sI Y 11 2 (nI (v / 1000))) 11 3 (nI (v / 10 % 100))) := fun Y => rfl
    rw [s1, e_cv, s2, e_cv, s3, e_cv, f_X7_tellsBounded]
    obtain ⟨τ, hτ⟩ : ∃ τ, τ = ow_sI (ow_sI (ow_sI (ow_sI (ow_sI (ow_sI (ow_sR X 10 2 (some (30 + 3 * law))) 11 4 (nI P)) 11 5 (nI (v % 10))) 11 0 (nI b)) 11 1 (nI f)) 11 2 (nI (v / 1000))) 11 3 (nI (v / 10 % 100)) := ⟨_, rfl⟩
    have n0 : τ.1 11 0 = nI b ∧ τ.1 11 1 = nI f ∧ τ.1 11 2 = nI (v / 1000) ∧ τ.1 11 3 = nI (v / 10 % 100) ∧ τ.1 11 4 = nI P ∧ τ.1 11 5 = nI (v % 10) := by
      rw [hτ]; refine ⟨?_, ?_, ?_, ?_, ?_, ?_⟩ <;> simp [g_if, gR_1]
    have nk : ∀ c, c ≠ 11 → τ.1 c = X.1 c := fun c hc => by
      rw [hτ, g_k _ _ hc, g_k _ _ hc, g_k _ _ hc, g_k _ _ hc, g_k _ _ hc, g_k _ _ hc, gR_1]
    have nR : τ.2.2 10 2 = some (30 + 3 * law) := by rw [hτ]; exact gR_s _ _ _ _
    rw [← hτ]
    obtain ⟨X1, x1, x2, x3⟩ := s_X7_tells fu hfu (t := 30 + 3 * law) (p := p) (by omega) (by omega) nR (t1.fr (nk _ (by omega)) (nk _ (by omega)) (nk _ (by omega)))
    obtain ⟨M1, m1, m2, m3⟩ := s_X9_asksOf fu hfu (ru := law) (p := p) (by omega) (by omega) r6 t2 (nI b) (nI f) (nI (v / 1000)) (nI (v / 10 % 100)) (nI (v % 10))
    rw [x1, e_cl, e_cl, m1, e_cl, h_bd_m, e_cl, h_bd_x, n0.1, n0.2.1, n0.2.2.1, n0.2.2.2.1, n0.2.2.2.2.1, n0.2.2.2.2.2, p4]
    refine ⟨_, _, _, rfl, rfl, h.sc ⟨fun c hc => (x2 c (by omega)).trans (nk c (by omega)), by rw [x2 7 (by omega), nk 7 (by omega)]⟩ ⟨fun c hc => m2 c (by omega) (by omega), fun z _ => by rw [m2 56 (by omega) (by omega)]⟩⟩
  · have hx : (if 52 < v / 1000 then some ((-2 : Int32), X) else if v / 10 % 100 < 60 then (ow_cl (f_X8_lawText fu X) <| fun r_68 σ_68 => ow_cv (f_X7_setOut fu r_68 (σ_68.1 0 11) (nI (v % 10)) σ_68) <| fun σ_80 => ow_cv (f_X7_keepBoth fu (nI b) (nI f) σ_80) <| fun σ_89 => ow_cv (f_X7_meet fu (nI (v / 1000)) (nI (v / 10 % 100)) σ_89) <| fun σ_100 => ow_cl (f_X7_tellsBounded fu (nI p) σ_100) <| fun r_108 σ_108 => some (r_108, σ_108)) else some (-2, X)) = some (-2, X) := by
      by_cases c1 : 52 < v / 1000
      · rw [if_pos c1]
      · rw [if_neg c1, if_neg (by omega)]
    rw [hx]
    by_cases c1 : 52599 < v
    · rw [if_pos c1, if_pos rfl]; exact stop
    · rw [if_neg c1, if_neg (show ¬ (1 : Int32) = 0 by decide), if_pos (show 600 ≤ v % 1000 by omega)]; exact stop
