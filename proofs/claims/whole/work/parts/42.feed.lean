/-! bytes and texts -/
theorem s_bytes (fu : Nat) (a : Int32) (X M : ow_S) : ∃ b : Bool, f_X8_isByte fu a X = some (if b = true then 1 else 0, X) ∧ f_X9_isByte fu a M = some (if b = true then 1 else 0, M) ∧ (b = true → ∃ j : Nat, j < 256 ∧ a = nI j) := by
  rw [f_X8_isByte, f_X9_isByte, s_in, e_cl]
  by_cases c0 : a < 0
  · rw [if_pos c0, if_pos c0]; exact ⟨false, rfl, rfl, fun h => absurd h (by decide)⟩
  · rw [if_neg c0, if_neg c0]
    by_cases c1 : (255 : Int32) < a
    · rw [if_pos c1, if_pos c1]; exact ⟨false, rfl, rfl, fun h => absurd h (by decide)⟩
    · rw [if_neg c1, if_neg c1]
      refine ⟨true, rfl, rfl, fun _ => ?_⟩
      obtain ⟨j, hj, rfl⟩ := n_rng (L := 255) (by decide) c0 c1
      exact ⟨j, by omega, rfl⟩
theorem s_feed_loop (fu : Nat) {x1 : Nat} (b2 b3 b4 b5 b6 : Nat) (h2 : b2 < 256) (h3 : b3 < 256) (h4 : b4 < 256) (h5 : b5 < 256) (h6 : b6 < 256) (hx : x1 ≤ 5) : ∀ (q i fn n : Nat) (B : Nat → Nat) (X M : ow_S), i + q = x1 → q < fn → n + q ≤ 160 → X.1 7 1 = nI n → M.1 56 8 = nI n → (∀ i, B i < 256) → (∀ i, i < n → X.1 8 i = nI (B i) ∧ M.1 61 i = nI (B i)) → ∃ X' M', L_X8_feed_72 fu fn (nI x1) (nI b2) (nI b3) (nI b4) (nI b5) (nI b6) (nI i) X = some (nI (n + q), X') ∧ L_X9_feed_68 fu fn (nI x1) (nI b2) (nI b3) (nI b4) (nI b5) (nI b6) (nI i) M = some (nI (n + q), M') ∧ rlB X'.1 M'.1 ∧ (∀ c, c ≠ 7 → c ≠ 8 → X'.1 c = X.1 c) ∧ (∀ c, c ≠ 56 → c ≠ 61 → M'.1 c = M.1 c) ∧ ∀ z, z ≠ 8 → M'.1 56 z = M.1 56 z := by
  intro q
  induction q with
  | zero =>
    intro i fn n B X M hi hf hn e1 e2 hB hb
    obtain ⟨fn, rfl⟩ : ∃ q, fn = q + 1 := ⟨fn - 1, by omega⟩
    refine ⟨X, M, ?_, ?_, ⟨B, n, by omega, e1, e2, hB, hb⟩, fun _ _ _ => rfl, fun _ _ _ => rfl, fun _ _ => rfl⟩
    · rw [L_X8_feed_72, if_pos (by rw [n_le (by omega) (by omega)]; omega), e1]; rfl
    · rw [L_X9_feed_68, if_pos (by rw [n_le (by omega) (by omega)]; omega), e2]; rfl
  | succ q ih =>
    intro i fn n B X M hi hf hn e1 e2 hB hb
    obtain ⟨fn, rfl⟩ : ∃ q, fn = q + 1 := ⟨fn - 1, by omega⟩
    have step : ∀ v : Nat, v < 256 → ∃ X' M', L_X8_feed_125 fu (L_X8_feed_72 fu fn) (nI x1) (nI b2) (nI b3) (nI b4) (nI b5) (nI b6) (nI i) (nI v) X = some (nI (n + (q + 1)), X') ∧ L_X9_feed_125 fu (L_X9_feed_68 fu fn) (nI x1) (nI b2) (nI b3) (nI b4) (nI b5) (nI b6) (nI i) (nI n) (nI v) M = some (nI (n + (q + 1)), M') ∧ rlB X'.1 M'.1 ∧ (∀ c, c ≠ 7 → c ≠ 8 → X'.1 c = X.1 c) ∧ (∀ c, c ≠ 56 → c ≠ 61 → M'.1 c = M.1 c) ∧ ∀ z, z ≠ 8 → M'.1 56 z = M.1 56 z := by
      intro v hv
      have ex : f_X3_take fu (nI v) X = some (ow_sI (ow_sI X 8 n (nI v)) 7 1 (nI (n + 1))) := by
        rw [f_X3_take, e1, if_neg (by rw [show (160 : Int32) = nI 160 from rfl, n_le (by decide) (by omega)]; omega), e_ckn _ (by omega) (by omega), n_cl (a := n) (by omega), e_let, g_k _ _ (show 7 ≠ 8 by decide), e1, show (1 : Int32) = nI 1 from rfl, n_add, e_let]
      obtain ⟨X', M', r1, r2, r3, r4, r5, r6⟩ := ih (i + 1) fn (n + 1) (fun z => if z = n then v else B z) (ow_sI (ow_sI X 8 n (nI v)) 7 1 (nI (n + 1))) (ow_sI (ow_sI M 61 n (nI v)) 56 8 (nI (n + 1))) (by omega) (by omega) (by omega) (g_same _ _ _ _) (g_same _ _ _ _) (fun z => by split; exact hv; exact hB z) (fun z hz => by
        rw [g_k _ _ (show 8 ≠ 7 by decide), g_k _ _ (show 61 ≠ 56 by decide), g_row, g_row]
        by_cases e : z = n
        · subst e; simp [upd]
        · simp only [upd, if_neg e]; exact hb z (by omega))
      refine ⟨X', M', ?_, ?_, r3, fun c c7 c8 => by rw [r4 c c7 c8, g_k _ _ c7, g_k _ _ c8], fun c c7 c8 => by rw [r5 c c7 c8, g_k _ _ c7, g_k _ _ c8], fun z hz => by rw [r6 z hz, g_j _ _ hz, g_k _ _ (show 56 ≠ 61 by decide)]⟩
      · rw [L_X8_feed_125, ex, e_cv, show (1 : Int32) = nI 1 from rfl, n_add, e_let, r1, Nat.add_assoc, Nat.add_comm 1 q]
      · rw [L_X9_feed_125, e_ckn _ (by omega) (by omega), n_cl (a := n) (by omega), e_let, g_k _ _ (show 56 ≠ 61 by decide), e2, show (1 : Int32) = nI 1 from rfl, n_add, e_let, n_add, e_let, r2, Nat.add_assoc, Nat.add_comm 1 q]
    have k0 : nI i = (0 : Int32) ↔ i = 0 := n_eq (b := 0) (by omega) (by decide)
    have k1 : nI i = (1 : Int32) ↔ i = 1 := n_eq (b := 1) (by omega) (by decide)
    have k2 : nI i = (2 : Int32) ↔ i = 2 := n_eq (b := 2) (by omega) (by decide)
    have k3 : nI i = (3 : Int32) ↔ i = 3 := n_eq (b := 3) (by omega) (by decide)
    have hle : ¬ nI x1 ≤ nI i := by rw [n_le (by omega) (by omega)]; omega
    rw [L_X8_feed_72, L_X9_feed_68, if_neg hle, if_neg hle, e2]
    simp only [k0, k1, k2, k3]
    by_cases c0 : i = 0
    · simp only [if_pos c0]; exact step b2 h2
    by_cases c1 : i = 1
    · simp only [if_neg c0, if_pos c1]; exact step b3 h3
    by_cases c2 : i = 2
    · simp only [if_neg c0, if_neg c1, if_pos c2]; exact step b4 h4
    by_cases c3 : i = 3
    · simp only [if_neg c0, if_neg c1, if_neg c2, if_pos c3]; exact step b5 h5
    simp only [if_neg c0, if_neg c1, if_neg c2, if_neg c3]; exact step b6 h6
theorem o_feed (fu : Nat) (hfu : 1000 ≤ fu) (a1 a2 a3 a4 a5 a6 : Int32) : sameI (f_X8_feed fu a1 a2 a3 a4 a5 a6) (f_X9_feed fu a1 a2 a3 a4 a5 a6) := by
  intro X M h
  have stop : ∀ v : Int32, ∃ r X' M', some (v, X) = some (r, X') ∧ some (v, M) = some (r, M') ∧ Rl X' M' := fun v => ⟨_, _, _, rfl, rfl, h⟩
  rw [f_X8_feed, f_X9_feed, s_in, e_cl]
  by_cases c0 : a1 < 1
  · rw [if_pos c0, if_pos c0, if_pos rfl]; exact stop _
  rw [if_neg c0, if_neg c0]
  by_cases c1 : (5 : Int32) < a1
  · rw [if_pos c1, if_pos c1, if_pos rfl]; exact stop _
  rw [if_neg c1, if_neg c1, if_neg (by decide)]
  obtain ⟨j, hj, rfl⟩ := n_rng (L := 5) (by decide) (fun h => c0 (Int32.lt_trans h (by decide))) c1
  have hj1 : 1 ≤ j := by rw [show (1 : Int32) = nI 1 from rfl, n_lt (by omega) (by decide)] at c0; omega
  obtain ⟨t2, x2, m2, g2⟩ := s_bytes fu a2 X M
  obtain ⟨t3, x3, m3, g3⟩ := s_bytes fu a3 X M
  obtain ⟨t4, x4, m4, g4⟩ := s_bytes fu a4 X M
  obtain ⟨t5, x5, m5, g5⟩ := s_bytes fu a5 X M
  obtain ⟨t6, x6, m6, g6⟩ := s_bytes fu a6 X M
  rw [x2, m2, e_cl, e_cl]
  cases t2 with
  | false => exact stop _
  | true =>
    rw [if_pos rfl, if_neg (by decide), if_neg (by decide), x3, m3, e_cl, e_cl]
    cases t3 with
    | false => exact stop _
    | true =>
      rw [if_pos rfl, if_neg (by decide), if_neg (by decide), x4, m4, e_cl, e_cl]
      cases t4 with
      | false => exact stop _
      | true =>
        rw [if_pos rfl, if_neg (by decide), if_neg (by decide), x5, m5, e_cl, e_cl]
        cases t5 with
        | false => exact stop _
        | true =>
          rw [if_pos rfl, if_neg (by decide), if_neg (by decide), x6, m6, e_cl, e_cl]
          cases t6 with
          | false => exact stop _
          | true =>
            obtain ⟨b2, l2, rfl⟩ := g2 rfl
            obtain ⟨b3, l3, rfl⟩ := g3 rfl
            obtain ⟨b4, l4, rfl⟩ := g4 rfl
            obtain ⟨b5, l5, rfl⟩ := g5 rfl
            obtain ⟨b6, l6, rfl⟩ := g6 rfl
            obtain ⟨h1, h2, h3, ⟨B, n, hn, e1, e2, hB, hb⟩, h5, h6, h7⟩ := h
            rw [if_pos rfl, if_neg (show ¬ (1 : Int32) = 0 by decide), if_neg (show ¬ (1 : Int32) = 0 by decide), e1, e2, n_add]
            have e : nI (n + j) ≤ (160 : Int32) ↔ n + j ≤ 160 := n_le (b := 160) (by omega) (by decide)
            simp only [e]
            by_cases c : n + j ≤ 160
            · rw [if_pos c, if_pos c, show (0 : Int32) = nI 0 from rfl]
              obtain ⟨X', M', r1, r2, r3, r4, r5, r6⟩ := s_feed_loop fu (x1 := j) b2 b3 b4 b5 b6 l2 l3 l4 l5 l6 hj j 0 fu n B X M (by omega) (by omega) c e1 e2 hB hb
              have z0 : X'.1 0 = X.1 0 := r4 0 (by decide) (by decide)
              refine ⟨_, X', M', r1, r2, h1.fr (by rw [z0]) (r4 1 (by decide) (by decide)) (r4 2 (by decide) (by decide)) (r6 0 (by decide)) (r6 2 (by decide)) (r5 57 (by decide) (by decide)), h2.fr (by rw [z0]) (fun c _ _ => r4 c (by omega) (by omega)) (r6 3 (by decide)) (r5 58 (by decide) (by decide)) (r5 59 (by decide) (by decide)) (r5 60 (by decide) (by decide)), h3.fr (by rw [z0]) (by rw [z0]) (fun c _ _ => r4 c (by omega) (by omega)) (r6 11 (by decide)) (r6 12 (by decide)) (r5 62 (by decide) (by decide)) (r5 63 (by decide) (by decide)), r3, h5.fr (r5 70 (by decide) (by decide)), h6.fr (fun c _ _ => r4 c (by omega) (by omega)) (r5 66 (by decide) (by decide)) (r5 67 (by decide) (by decide)) (r5 68 (by decide) (by decide)), h7.fr (by rw [z0]) (by rw [z0]) (fun c _ _ => r4 c (by omega) (by omega)) (fun c _ _ => by rw [r4 c (by omega) (by omega)]; exact ⟨rfl, rfl⟩) (fun z _ _ => r6 z (by omega)) (r5 64 (by decide) (by decide)) (r5 65 (by decide) (by decide))⟩
            · rw [if_neg c, if_neg c]; exact stop _
theorem m_text.pt {M M' : Nat → Nat → Int32} {t : Nat} {T : Nat → List Nat} (h : m_text M t T) (a : ∀ z, 4 * t ≤ z → z < 4 * t + 4 → M' 63 z = M 63 z) (b : ∀ z, 200 * t ≤ z → z < 200 * t + 200 → M' 62 z = M 62 z) : m_text M' t T := by
  obtain ⟨h1, h2, h3, h4⟩ := h
  refine ⟨h1, fun p hp => by rw [a _ (by omega) (by omega)]; exact h2 p hp, h3, fun p j hp hj => ?_⟩
  have := t_off_3 T hp
  rw [b _ (by omega) (by omega)]; exact h4 p j hp hj
theorem o_text (fu : Nat) (hfu : 1000 ≤ fu) : sameI (f_X8_text fu) (f_X9_text fu) := by
  intro X M h
  have h0 := h
  obtain ⟨h1, h2, ⟨tc, law, r1, r2, r3, r4, r5, r6, r7⟩, ⟨B, n, hn, e1, e2, hB, hb⟩, h5, h6, h7⟩ := h
  rw [f_X8_text, r3]
  have e6 : nI tc < (6 : Int32) ↔ tc < 6 := n_lt (b := 6) (by omega) (by decide)
  simp only [e6]
  by_cases c : tc < 6
  · rw [if_pos c, e_ckn _ (by omega) c, n_cl (a := tc) (by omega), e_let]
    obtain ⟨r, X1, p1, w, d71, R⟩ := s_X3_readInto (B := B) (n := n) (h := 30 + 3 * tc) fu hfu (by omega) (σ := X) ⟨e1, hn, fun i hi => (hb i hi).1, hB⟩
    obtain ⟨To, Tf⟩ := s_X9_text (B := B) (n := n) (ru := tc) fu hfu c (σ := M) ⟨e2, hn, fun i hi => (hb i hi).2, hB⟩ h5 r4
    have wc : ∀ c, c ≠ 7 → c ≠ 30 + 3 * tc → c ≠ 30 + 3 * tc + 1 → c ≠ 30 + 3 * tc + 2 → X1.1 c = X.1 c := fun c q0 q1 q2 q3 => funext fun z => w.1 c z q1 q2 q3 (by omega)
    have z0 : X1.1 0 = X.1 0 := wc 0 (by omega) (by omega) (by omega) (by omega)
    rw [p1, e_cl, z0, r3]
    have rest : ∀ M1 : ow_S, mx tc M M1 → M1.1 56 8 = 0 → (∀ t, t < tc → ∃ T, x_text X1.1 (30 + 3 * t) T ∧ m_text M1.1 t T) ∧ rlA X1.1 M1.1 ∧ rlH X1.1 M1.1 ∧ rlB X1.1 M1.1 ∧ rlW M1.1 ∧ rlS X1.1 M1.1 ∧ rlI X1.1 M1.1 ∧ X1.1 0 14 = nI law ∧ M1.1 56 12 = nI law := by
      intro M1 wm d8
      have mc : ∀ c, c ≠ 56 → c ≠ 62 → c ≠ 63 → c ≠ 71 → M1.1 c = M.1 c := fun c q0 q1 q2 q3 => funext fun z => wm.1 c z (by omega) (by omega) (by omega) q3
      have mf : ∀ z, (z < 8 ∨ (8 < z ∧ z < 11) ∨ (11 < z ∧ z < 24)) → M1.1 56 z = M.1 56 z := fun z hz => wm.1 56 z (by omega) (by omega) (by omega) (by omega)
      refine ⟨fun t ht => ?_, h1.fr (by rw [z0]) (wc 1 (by omega) (by omega) (by omega) (by omega)) (wc 2 (by omega) (by omega) (by omega) (by omega)) (mf 0 (by omega)) (mf 2 (by omega)) (mc 57 (by omega) (by omega) (by omega) (by omega)), h2.fr (by rw [z0]) (fun c _ _ => wc c (by omega) (by omega) (by omega) (by omega)) (mf 3 (by omega)) (mc 58 (by omega) (by omega) (by omega) (by omega)) (mc 59 (by omega) (by omega) (by omega) (by omega)) (mc 60 (by omega) (by omega) (by omega) (by omega)), ⟨B, 0, by omega, d71, d8, hB, fun i hi => by omega⟩, h5.fr (mc 70 (by omega) (by omega) (by omega) (by omega)), h6.fr (fun c _ _ => wc c (by omega) (by omega) (by omega) (by omega)) (mc 66 (by omega) (by omega) (by omega) (by omega)) (mc 67 (by omega) (by omega) (by omega) (by omega)) (mc 68 (by omega) (by omega) (by omega) (by omega)), h7.fr (by rw [z0]) (by rw [z0]) (fun c _ _ => wc c (by omega) (by omega) (by omega) (by omega)) (fun c _ _ => by rw [wc c (by omega) (by omega) (by omega) (by omega)]; exact ⟨rfl, rfl⟩) (fun z _ _ => mf z (by omega)) (mc 64 (by omega) (by omega) (by omega) (by omega)) (mc 65 (by omega) (by omega) (by omega) (by omega)), by rw [z0]; exact r5, (mf 12 (by omega)).trans r6⟩
      obtain ⟨T, q1, q2⟩ := r7 t ht
      refine ⟨T, q1.fr (wc _ (by omega) (by omega) (by omega) (by omega)) (wc _ (by omega) (by omega) (by omega) (by omega)) (wc _ (by omega) (by omega) (by omega) (by omega)), q2.pt (fun z z1 z2 => ?_) (fun z z1 z2 => ?_)⟩
      · exact wm.1 63 z (by omega) (by omega) (by omega) (by omega)
      · exact wm.1 62 z (by omega) (by omega) (by omega) (by omega)
    rcases R with ⟨c0, c1, c2, ht, rfl, hx⟩ | ⟨kf, hf, rfl⟩
    · obtain ⟨M1, p2, wm, d8, d11, hm⟩ := To c0 c1 c2 ht
      obtain ⟨q1, q2, q3, q4, q5, q6, q7, q8, q9⟩ := rest M1 wm d8
      rw [if_pos (by decide), show (1 : Int32) = nI 1 from rfl, n_add, e_let, g_same, n_sub (by omega), Nat.add_sub_cancel, p2]
      have y0 : ∀ z, z ≠ 13 → (ow_sI X1 0 13 (nI (tc + 1))).1 0 z = X1.1 0 z := fun z hz => g_j _ _ hz
      have yc : ∀ c, c ≠ 0 → (ow_sI X1 0 13 (nI (tc + 1))).1 c = X1.1 c := fun c hc => g_k _ _ hc
      refine ⟨_, _, _, rfl, rfl, q2.fr (y0 11 (by omega)) (yc 1 (by omega)) (yc 2 (by omega)) rfl rfl rfl, q3.fr (y0 12 (by omega)) (fun c _ _ => yc c (by omega)) rfl rfl rfl rfl, ⟨tc + 1, law, by omega, by omega, g_same _ _ _ _, d11, (y0 14 (by omega)).trans q8, q9, fun t ht => ?_⟩, q4.fr (by rw [yc 7 (by omega)]) (yc 8 (by omega)) rfl rfl, q5, q6.fr (fun c _ _ => yc c (by omega)) rfl rfl rfl, ?_⟩
      · by_cases e : t < tc
        · obtain ⟨T, u1, u2⟩ := q1 t e
          exact ⟨T, u1.fr (yc _ (by omega)) (yc _ (by omega)) (yc _ (by omega)), u2⟩
        · obtain rfl : t = tc := by omega
          exact ⟨_, hx.fr (yc _ (by omega)) (yc _ (by omega)) (yc _ (by omega)), hm⟩
      · obtain ⟨th, u1, u2, u3, u⟩ := q7
        refine ⟨th, u1, by rw [yc 16 (by omega)]; exact u2, u3, fun hth => ?_⟩
        obtain ⟨P, l, ih, il, hc, tc', v1, v2, v3, v4, v5, v6, v7, v8, v9, v10, v11, v12, v13, v14, v15, v16, v17, v18, v19⟩ := u hth
        have etc : tc' = tc := by
          rw [z0, r3] at v16
          exact ((n_eq (by omega) (by omega)).mp v16).symm
        subst etc
        refine ⟨P, l, ih, il, hc, tc' + 1, v1, v2, by rw [yc 16 (by omega)]; exact v3, v4, ?_, v6, v7, v8, by rw [yc 16 (by omega)]; exact v9, v10, by rw [yc 16 (by omega)]; exact v11, v12, by rw [y0 12 (by omega)]; exact v13, v14, v15, g_same _ _ _ _, by omega, by omega, fun h hh => ?_⟩
        · unfold x_row at v5 ⊢; rw [yc 17 (by omega), yc (17 + 1) (by omega)]; exact v5
        · obtain ⟨b1, f1, s1, q⟩ := v19 h hh
          refine ⟨b1, f1, s1, ?_⟩
          rw [yc (20 + h) (by omega), yc (25 + h) (by omega)]; exact q
    · obtain ⟨M1, p2, wm, d8, d11⟩ := Tf kf hf
      obtain ⟨q1, q2, q3, q4, q5, q6, q7, q8, q9⟩ := rest M1 wm d8
      have hpl := (lx_pl_le B (ps_le B n kf)).2
      rw [if_neg (nI_pos (by omega)), p2]
      exact ⟨_, _, _, rfl, rfl, q2, q3, ⟨tc, law, r1, r2, by rw [z0]; exact r3, d11, q8, q9, q1⟩, q4, q5, q6, q7⟩
  · rw [if_neg c, f_X9_text, r4, if_pos (by rw [show tc = 6 by omega]; rfl)]
    exact ⟨_, _, _, rfl, rfl, h0⟩
