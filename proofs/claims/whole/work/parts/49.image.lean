/-! image, back -/
theorem s_X0_become (fu : Nat) {h a : Nat} (hne : h ≠ a) (X : ow_S) : ∃ X', f_X0_become fu h a X = some X' ∧ (∀ c, c ≠ h → X'.1 c = X.1 c) ∧ (∀ z, z < 5 → X'.1 h z = X.1 a z) ∧ X'.2 = X.2 := by
  refine ⟨ow_sI (ow_sI (ow_sI (ow_sI (ow_sI X h 0 (X.1 a 0)) h 1 (X.1 a 1)) h 2 (X.1 a 2)) h 3 (X.1 a 3)) h 4 (X.1 a 4), ?_, fun c hc => ?_, fun z hz => ?_, rfl⟩
  · have k : ∀ (Y : ow_S) (j z : Nat) (v : Int32), (ow_sI Y h j v).1 a z = Y.1 a z := fun Y j z v => by rw [g_k _ _ (Ne.symm hne)]
    simp only [f_X0_become, e_let, k]
  · rw [g_k _ _ hc, g_k _ _ hc, g_k _ _ hc, g_k _ _ hc, g_k _ _ hc]
  · rcases (show z = 0 ∨ z = 1 ∨ z = 2 ∨ z = 3 ∨ z = 4 by omega) with rfl | rfl | rfl | rfl | rfl <;> simp [g_if]
theorem s_img_loop (fu : Nat) {hc : Nat} (h5 : hc ≤ 5) : ∀ (q i fn : Nat) (X : ow_S), X.1 0 12 = nI hc → i + q = hc → q < fn → (∃ X', L_X8_image_57 fu fn (nI i) X = some (nI hc, X') ∧ (∀ c, ¬(20 + i ≤ c ∧ c < 20 + hc) → X'.1 c = X.1 c) ∧ ∀ h, i ≤ h → h < hc → ∀ z, z < 5 → X'.1 (20 + h) z = X.1 (25 + h) z) ∧ (∃ X', L_X8_back_62 fu fn (nI i) X = some (nI hc, X') ∧ (∀ c, ¬(25 + i ≤ c ∧ c < 25 + hc) → X'.1 c = X.1 c) ∧ ∀ h, i ≤ h → h < hc → ∀ z, z < 5 → X'.1 (25 + h) z = X.1 (20 + h) z) := by
  intro q
  induction q with
  | zero =>
    intro i fn X q2 hi hf
    obtain ⟨fn, rfl⟩ : ∃ q, fn = q + 1 := ⟨fn - 1, by omega⟩
    have hle : nI hc ≤ nI i := by rw [n_le (by omega) (by omega)]; omega
    refine ⟨⟨X, ?_, fun _ _ => rfl, fun h h1 h2 => by omega⟩, ⟨X, ?_, fun _ _ => rfl, fun h h1 h2 => by omega⟩⟩
    · rw [L_X8_image_57, q2, if_pos hle]
    · rw [L_X8_back_62, q2, if_pos hle]
  | succ q ih =>
    intro i fn X q2 hi hf
    obtain ⟨fn, rfl⟩ : ∃ q, fn = q + 1 := ⟨fn - 1, by omega⟩
    have hle : ¬ nI hc ≤ nI i := by rw [n_le (by omega) (by omega)]; omega
    constructor
    · obtain ⟨X1, x1, x2, x3, x4⟩ := s_X0_become fu (h := 20 + i) (a := 25 + i) (by omega) X
      obtain ⟨⟨X2, y1, y2, y3⟩, -⟩ := ih (i + 1) fn X1 (by rw [x2 0 (by omega)]; exact q2) (by omega) (by omega)
      refine ⟨X2, ?_, fun c hc' => by rw [y2 c (by omega), x2 c (by omega)], fun h h1 h2 z hz => ?_⟩
      · rw [L_X8_image_57, q2, if_neg hle, e_ckn _ (by omega) (by omega), e_let, e_ckn _ (by omega) (by omega), e_let, n_cl (a := i) (by omega), x1, e_cv, e_let, show (1 : Int32) = nI 1 from rfl, n_add, y1]
      · by_cases e : h = i
        · subst e; rw [y2 _ (by omega), x3 z hz]
        · rw [y3 h (by omega) h2 z hz, x2 _ (by omega)]
    · obtain ⟨X1, x1, x2, x3, x4⟩ := s_X0_become fu (h := 25 + i) (a := 20 + i) (by omega) X
      obtain ⟨-, ⟨X2, y1, y2, y3⟩⟩ := ih (i + 1) fn X1 (by rw [x2 0 (by omega)]; exact q2) (by omega) (by omega)
      refine ⟨X2, ?_, fun c hc' => by rw [y2 c (by omega), x2 c (by omega)], fun h h1 h2 z hz => ?_⟩
      · rw [L_X8_back_62, q2, if_neg hle, e_ckn _ (by omega) (by omega), e_let, e_ckn _ (by omega) (by omega), e_let, n_cl (a := i) (by omega), x1, e_cv, e_let, show (1 : Int32) = nI 1 from rfl, n_add, y1]
      · by_cases e : h = i
        · subst e; rw [y2 _ (by omega), x3 z hz]
        · rw [y3 h (by omega) h2 z hz, x2 _ (by omega)]
theorem s_m_img15 (fu : Nat) : ∀ (q i fn : Nat) (M : ow_S), i + q = 15 → q < fn → (∃ M', L_X9_image_65 fu fn (nI i) M = some (M.1 56 3, M') ∧ (∀ c, c ≠ 65 → M'.1 c = M.1 c) ∧ (∀ z, i ≤ z → z < 15 → M'.1 65 z = M.1 60 z) ∧ ∀ z, z < i → M'.1 65 z = M.1 65 z) ∧ (∃ M', L_X9_back_70 fu fn (nI i) M = some (M.1 56 3, M') ∧ (∀ c, c ≠ 60 → M'.1 c = M.1 c) ∧ (∀ z, i ≤ z → z < 15 → M'.1 60 z = M.1 65 z) ∧ ∀ z, z < i → M'.1 60 z = M.1 60 z) := by
  intro q
  induction q with
  | zero =>
    intro i fn M hi hf
    obtain ⟨fn, rfl⟩ : ∃ q, fn = q + 1 := ⟨fn - 1, by omega⟩
    have hle : (15 : Int32) ≤ nI i := by rw [show (15 : Int32) = nI 15 from rfl, n_le (by omega) (by omega)]; omega
    refine ⟨⟨M, ?_, fun _ _ => rfl, fun z h1 h2 => by omega, fun _ _ => rfl⟩, ⟨M, ?_, fun _ _ => rfl, fun z h1 h2 => by omega, fun _ _ => rfl⟩⟩
    · rw [L_X9_image_65, if_pos hle]
    · rw [L_X9_back_70, if_pos hle]
  | succ q ih =>
    intro i fn M hi hf
    obtain ⟨fn, rfl⟩ : ∃ q, fn = q + 1 := ⟨fn - 1, by omega⟩
    have hle : ¬ (15 : Int32) ≤ nI i := by rw [show (15 : Int32) = nI 15 from rfl, n_le (by omega) (by omega)]; omega
    constructor
    · obtain ⟨⟨M', a, b, c, d⟩, -⟩ := ih (i + 1) fn (ow_sI M 65 i (M.1 60 i)) (by omega) (by omega)
      refine ⟨M', ?_, fun k hk => by rw [b k hk, g_k _ _ hk], fun z h1 h2 => ?_, fun z hz => by rw [d z (by omega), g_j _ _ (by omega)]⟩
      · rw [L_X9_image_65, if_neg hle, e_ckn _ (by omega) (by omega), e_ckn _ (by omega) (by omega), n_cl (a := i) (by omega), e_let, e_let, show (1 : Int32) = nI 1 from rfl, n_add, a, g_k _ _ (show 56 ≠ 65 by decide)]
      · by_cases e : z = i
        · subst e; rw [d z (by omega), g_same]
        · rw [c z (by omega) h2, g_k _ _ (show 60 ≠ 65 by decide)]
    · obtain ⟨-, ⟨M', a, b, c, d⟩⟩ := ih (i + 1) fn (ow_sI M 60 i (M.1 65 i)) (by omega) (by omega)
      refine ⟨M', ?_, fun k hk => by rw [b k hk, g_k _ _ hk], fun z h1 h2 => ?_, fun z hz => by rw [d z (by omega), g_j _ _ (by omega)]⟩
      · rw [L_X9_back_70, if_neg hle, e_ckn _ (by omega) (by omega), e_ckn _ (by omega) (by omega), n_cl (a := i) (by omega), e_let, e_let, show (1 : Int32) = nI 1 from rfl, n_add, a, g_k _ _ (show 56 ≠ 60 by decide)]
      · by_cases e : z = i
        · subst e; rw [d z (by omega), g_same]
        · rw [c z (by omega) h2, g_k _ _ (show 65 ≠ 60 by decide)]
theorem s_m_img60 (fu : Nat) (hfu : 1000 ≤ fu) : ∀ (q i fn : Nat) (M : ow_S), i + q = 60 → q < fn → (∃ M', L_X9_image_39 fu fn (nI i) M = some (M.1 56 3, M') ∧ (∀ c, c ≠ 64 → c ≠ 65 → M'.1 c = M.1 c) ∧ (∀ z, i ≤ z → z < 60 → M'.1 64 z = M.1 57 z) ∧ (∀ z, z < i → M'.1 64 z = M.1 64 z) ∧ ∀ z, z < 15 → M'.1 65 z = M.1 60 z) ∧ (∃ M', L_X9_back_44 fu fn (nI i) M = some (M.1 56 3, M') ∧ (∀ c, c ≠ 57 → c ≠ 60 → M'.1 c = M.1 c) ∧ (∀ z, i ≤ z → z < 60 → M'.1 57 z = M.1 64 z) ∧ (∀ z, z < i → M'.1 57 z = M.1 57 z) ∧ ∀ z, z < 15 → M'.1 60 z = M.1 65 z) := by
  intro q
  induction q with
  | zero =>
    intro i fn M hi hf
    obtain ⟨fn, rfl⟩ : ∃ q, fn = q + 1 := ⟨fn - 1, by omega⟩
    have hle : (60 : Int32) ≤ nI i := by rw [show (60 : Int32) = nI 60 from rfl, n_le (by omega) (by omega)]; omega
    obtain ⟨⟨M1, a, b, c, d⟩, ⟨M2, a', b', c', d'⟩⟩ := s_m_img15 fu 15 0 fu M (by omega) (by omega)
    refine ⟨⟨M1, ?_, fun k _ hk => b k hk, fun z h1 h2 => by omega, fun z _ => by rw [b 64 (by decide)], fun z hz => c z (by omega) hz⟩, ⟨M2, ?_, fun k _ hk => b' k hk, fun z h1 h2 => by omega, fun z _ => by rw [b' 57 (by decide)], fun z hz => c' z (by omega) hz⟩⟩
    · rw [L_X9_image_39, if_pos hle]; exact a
    · rw [L_X9_back_44, if_pos hle]; exact a'
  | succ q ih =>
    intro i fn M hi hf
    obtain ⟨fn, rfl⟩ : ∃ q, fn = q + 1 := ⟨fn - 1, by omega⟩
    have hle : ¬ (60 : Int32) ≤ nI i := by rw [show (60 : Int32) = nI 60 from rfl, n_le (by omega) (by omega)]; omega
    constructor
    · obtain ⟨⟨M', a, b, c, d, e'⟩, -⟩ := ih (i + 1) fn (ow_sI M 64 i (M.1 57 i)) (by omega) (by omega)
      refine ⟨M', ?_, fun k hk hk' => by rw [b k hk hk', g_k _ _ hk], fun z h1 h2 => ?_, fun z hz => by rw [d z (by omega), g_j _ _ (by omega)], fun z hz => by rw [e' z hz, g_k _ _ (show 60 ≠ 64 by decide)]⟩
      · rw [L_X9_image_39, if_neg hle, e_ckn _ (by omega) (by omega), e_ckn _ (by omega) (by omega), n_cl (a := i) (by omega), e_let, e_let, show (1 : Int32) = nI 1 from rfl, n_add, a, g_k _ _ (show 56 ≠ 64 by decide)]
      · by_cases e : z = i
        · subst e; rw [d z (by omega), g_same]
        · rw [c z (by omega) h2, g_k _ _ (show 57 ≠ 64 by decide)]
    · obtain ⟨-, ⟨M', a, b, c, d, e'⟩⟩ := ih (i + 1) fn (ow_sI M 57 i (M.1 64 i)) (by omega) (by omega)
      refine ⟨M', ?_, fun k hk hk' => by rw [b k hk hk', g_k _ _ hk], fun z h1 h2 => ?_, fun z hz => by rw [d z (by omega), g_j _ _ (by omega)], fun z hz => by rw [e' z hz, g_k _ _ (show 65 ≠ 57 by decide)]⟩
      · rw [L_X9_back_44, if_neg hle, e_ckn _ (by omega) (by omega), e_ckn _ (by omega) (by omega), n_cl (a := i) (by omega), e_let, e_let, show (1 : Int32) = nI 1 from rfl, n_add, a, g_k _ _ (show 56 ≠ 57 by decide)]
      · by_cases e : z = i
        · subst e; rw [d z (by omega), g_same]
        · rw [c z (by omega) h2, g_k _ _ (show 64 ≠ 57 by decide)]
theorem o_image (fu : Nat) (hfu : 1000 ≤ fu) : sameI (f_X8_image fu) (f_X9_image fu) := by
  intro X M h
  obtain ⟨h1, h2, h3, h4, h5, h6, h7⟩ := h
  have g1 := h1
  have g2 := h2
  have g3 := h3
  obtain ⟨P, l, p1, p2, p3, p4, p5, p6, p7, p8⟩ := g1
  obtain ⟨hc, q1, q2, q3, q4⟩ := g2
  obtain ⟨tc, law, r1, r2, r3, r4, r5, r6, r7⟩ := g3
  have h60 := p5.2.1
  have k16 : ∀ (Y : ow_S) (j z : Nat) (v : Int32), (ow_sI Y 16 j v).1 0 z = Y.1 0 z := fun Y j z v => by rw [g_k _ _ (show 0 ≠ 16 by decide)]
  have k56 : ∀ (Y : ow_S) (j z : Nat) (v : Int32), z ≠ j → (ow_sI Y 56 j v).1 56 z = Y.1 56 z := fun Y j z v hz => g_j _ _ hz
  rw [f_X8_image, f_X9_image]
  simp only [e_let, k16, p3, q2, r5]
  obtain ⟨Y, hY⟩ : ∃ Y, Y = ow_sI (ow_sI (ow_sI (ow_sI X 16 2 1) 16 3 (nI P)) 16 4 (nI hc)) 16 5 (nI law) := ⟨_, rfl⟩
  have yc : ∀ c, c ≠ 16 → Y.1 c = X.1 c := fun c hc => by rw [hY, g_k _ _ hc, g_k _ _ hc, g_k _ _ hc, g_k _ _ hc]
  have y2 : Y.1 16 2 = 1 ∧ Y.1 16 3 = nI P ∧ Y.1 16 4 = nI hc ∧ Y.1 16 5 = nI law := by
    rw [hY]; refine ⟨?_, ?_, ?_, ?_⟩ <;> simp [g_if]
  rw [← hY]
  have pY : x_row Y.1 1 l := by unfold x_row at p5 ⊢; rw [yc 1 (by decide), yc (1 + 1) (by decide)]; exact p5
  obtain ⟨X1, x1, x2, x3⟩ := s_X4_become fu hfu (r := 17) (q := 1) (by decide) (by decide) (by decide) pY
  have z0 : X1.1 0 = X.1 0 := by rw [x3.1 0 (by decide) (by decide), yc 0 (by decide)]
  obtain ⟨⟨X2, u1, u2, u3⟩, -⟩ := s_img_loop fu q1 hc 0 fu X1 (by rw [z0]; exact q2) (by omega) (by omega)
  obtain ⟨N, hN⟩ : ∃ N, N = ow_sI (ow_sI (ow_sI (ow_sI (ow_sI M 56 13 1) 56 14 (nI P)) 56 15 (nI l.length)) 56 16 (nI hc)) 56 17 (nI law) := ⟨_, rfl⟩
  have nE : (ow_sI (ow_sI (ow_sI (ow_sI (ow_sI M 56 13 1) 56 14 ((ow_sI M 56 13 1).1 56 0)) 56 15 ((ow_sI (ow_sI M 56 13 1) 56 14 ((ow_sI M 56 13 1).1 56 0)).1 56 2)) 56 16 ((ow_sI (ow_sI (ow_sI M 56 13 1) 56 14 ((ow_sI M 56 13 1).1 56 0)) 56 15 ((ow_sI (ow_sI M 56 13 1) 56 14 ((ow_sI M 56 13 1).1 56 0)).1 56 2)).1 56 3)) 56 17 ((ow_sI (ow_sI (ow_sI (ow_sI M 56 13 1) 56 14 ((ow_sI M 56 13 1).1 56 0)) 56 15 ((ow_sI (ow_sI M 56 13 1) 56 14 ((ow_sI M 56 13 1).1 56 0)).1 56 2)) 56 16 ((ow_sI (ow_sI (ow_sI M 56 13 1) 56 14 ((ow_sI M 56 13 1).1 56 0)) 56 15 ((ow_sI (ow_sI M 56 13 1) 56 14 ((ow_sI M 56 13 1).1 56 0)).1 56 2)).1 56 3)).1 56 12)) = N := by
    rw [hN]
    simp only [k56 _ 13 0 _ (by decide), k56 _ 13 2 _ (by decide), k56 _ 14 2 _ (by decide), k56 _ 13 3 _ (by decide), k56 _ 14 3 _ (by decide), k56 _ 15 3 _ (by decide), k56 _ 13 12 _ (by decide), k56 _ 14 12 _ (by decide), k56 _ 15 12 _ (by decide), k56 _ 16 12 _ (by decide), p4, p6, q3, r6]
  rw [nE]
  have nc : ∀ c, c ≠ 56 → N.1 c = M.1 c := fun c hc => by rw [hN, g_k _ _ hc, g_k _ _ hc, g_k _ _ hc, g_k _ _ hc, g_k _ _ hc]
  have nf : ∀ z, (z < 13 ∨ 17 < z) → N.1 56 z = M.1 56 z := fun z hz => by rw [hN, g_j _ _ (by omega), g_j _ _ (by omega), g_j _ _ (by omega), g_j _ _ (by omega), g_j _ _ (by omega)]
  have n2 : N.1 56 13 = 1 ∧ N.1 56 14 = nI P ∧ N.1 56 15 = nI l.length ∧ N.1 56 16 = nI hc ∧ N.1 56 17 = nI law := by
    rw [hN]; refine ⟨?_, ?_, ?_, ?_, ?_⟩ <;> simp [g_if]
  obtain ⟨⟨M', m1, m2, m3, m4, m5⟩, -⟩ := s_m_img60 fu hfu 60 0 fu N (by omega) (by omega)
  rw [x1, e_cv, show (0 : Int32) = nI 0 from rfl, u1, m1, nf 3 (by omega), q3]
  have xc : ∀ c, c < 16 ∨ 25 ≤ c → X2.1 c = X.1 c := fun c hc' => by rw [u2 c (by omega), x3.1 c (by omega) (by omega), yc c (by omega)]
  have mc : ∀ c, c ≠ 56 → c ≠ 64 → c ≠ 65 → M'.1 c = M.1 c := fun c a b d => by rw [m2 c b d, nc c a]
  have mf : ∀ z, (z < 13 ∨ 17 < z) → M'.1 56 z = M.1 56 z := fun z hz => by rw [m2 56 (by decide) (by decide), nf z hz]
  have e0 : X2.1 0 = X.1 0 := xc 0 (by omega)
  have e16 : X2.1 16 = Y.1 16 := by rw [u2 16 (by omega), x3.1 16 (by decide) (by decide)]
  have em : M'.1 56 = N.1 56 := m2 56 (by decide) (by decide)
  refine ⟨_, X2, M', rfl, rfl, h1.fr (by rw [e0]) (xc 1 (by omega)) (xc 2 (by omega)) (mf 0 (by omega)) (mf 2 (by omega)) (mc 57 (by decide) (by decide) (by decide)), h2.fr (by rw [e0]) (fun c _ _ => xc c (by omega)) (mf 3 (by omega)) (mc 58 (by decide) (by decide) (by decide)) (mc 59 (by decide) (by decide) (by decide)) (mc 60 (by decide) (by decide) (by decide)), h3.fr (by rw [e0]) (by rw [e0]) (fun c _ _ => xc c (by omega)) (mf 11 (by omega)) (mf 12 (by omega)) (mc 62 (by decide) (by decide) (by decide)) (mc 63 (by decide) (by decide) (by decide)), h4.fr (by rw [xc 7 (by omega)]) (xc 8 (by omega)) (mf 8 (by omega)) (mc 61 (by decide) (by decide) (by decide)), h5.fr (mc 70 (by decide) (by decide) (by decide)), h6.fr (fun c _ _ => xc c (by omega)) (mc 66 (by decide) (by decide) (by decide)) (mc 67 (by decide) (by decide) (by decide)) (mc 68 (by decide) (by decide) (by decide)), ⟨1, by decide, by rw [e16]; exact y2.1, by rw [em]; exact n2.1, fun _ => ⟨P, l, hc, law, hc, tc, p1, p2, by rw [e16]; exact y2.2.1, by rw [em]; exact n2.2.1, ?_, by rw [em]; exact n2.2.2.1, fun p hp => by rw [m3 p (by omega) (by omega), nc 57 (by decide)]; exact p7 p hp, p8, by rw [e16]; exact y2.2.2.1, by rw [em]; exact n2.2.2.2.1, by rw [e16]; exact y2.2.2.2, by rw [em]; exact n2.2.2.2.2, by rw [e0]; exact q2, q1, Nat.le_refl _, by rw [e0]; exact r3, r1, r2, fun i hi => ?_⟩⟩⟩
  · unfold x_row at x2 ⊢
    rw [u2 17 (by omega), u2 (17 + 1) (by omega)]; exact x2
  · obtain ⟨k, mo, bb, ff, ss, ⟨a0, a1, a2, a3, a4, -⟩, ⟨b0, b1, b2, b3, b4, -⟩, hr⟩ := q4 i hi
    have e25 : X1.1 (25 + i) = X.1 (25 + i) := by rw [x3.1 _ (by omega) (by omega), yc _ (by omega)]
    refine ⟨bb, ff, ss, ?_, ?_, ?_, ?_, ?_, ?_, ?_, ?_, hr⟩
    · rw [u3 i (by omega) hi 0 (by decide), e25, xc (25 + i) (by omega)]
    · rw [u3 i (by omega) hi 1 (by decide), e25, xc (25 + i) (by omega)]
    · rw [u3 i (by omega) hi 2 (by decide), e25]; exact a2
    · rw [u3 i (by omega) hi 3 (by decide), e25]; exact a3
    · rw [u3 i (by omega) hi 4 (by decide), e25]; exact a4
    · rw [m5 _ (by omega), nc 60 (by decide)]; exact b2
    · rw [m5 _ (by omega), nc 60 (by decide)]; exact b3
    · rw [m5 _ (by omega), nc 60 (by decide)]; exact b4
theorem o_back (fu : Nat) (hfu : 1000 ≤ fu) : sameI (f_X8_back fu) (f_X9_back fu) := by
  intro X M h
  have h0 := h
  obtain ⟨h1, h2, h3, h4, h5, h6, ⟨th, t1, t2, t3, ht⟩⟩ := h
  have eth : nI th = (0 : Int32) ↔ th = 0 := n_eq (b := 0) (by omega) (by decide)
  rw [f_X8_back, f_X9_back, t2, t3]
  simp only [eth]
  by_cases c : th = 0
  · rw [if_pos c, if_pos c]; exact ⟨_, _, _, rfl, rfl, h0⟩
  rw [if_neg c, if_neg c]
  obtain ⟨P, l, ih, il, hc, tc, v1, v2, v3, v4, v5, v6, v7, v8, v9, v10, v11, v12, v13, v14, v15, v16, v17, v18, v19⟩ := ht (by omega)
  have h60 := v5.2.1
  have k0 : ∀ (Y : ow_S) (j z : Nat) (v : Int32), (ow_sI Y 0 j v).1 16 z = Y.1 16 z := fun Y j z v => by rw [g_k _ _ (show 16 ≠ 0 by decide)]
  have k56 : ∀ (Y : ow_S) (j z : Nat) (v : Int32), z ≠ j → (ow_sI Y 56 j v).1 56 z = Y.1 56 z := fun Y j z v hz => g_j _ _ hz
  simp only [e_let, k0, v3, v9, v11, v4, k56 _ 0 15 _ (by decide), k56 _ 0 16 _ (by decide), k56 _ 2 16 _ (by decide), k56 _ 0 17 _ (by decide), k56 _ 2 17 _ (by decide), k56 _ 3 17 _ (by decide), v6, v10, v12]
  obtain ⟨Y, hY⟩ : ∃ Y, Y = ow_sI (ow_sI (ow_sI X 0 11 (nI P)) 0 12 (nI ih)) 0 14 (nI il) := ⟨_, rfl⟩
  obtain ⟨N, hN⟩ : ∃ N, N = ow_sI (ow_sI (ow_sI (ow_sI M 56 0 (nI P)) 56 2 (nI l.length)) 56 3 (nI ih)) 56 12 (nI il) := ⟨_, rfl⟩
  rw [← hY, ← hN]
  have yc : ∀ c, c ≠ 0 → Y.1 c = X.1 c := fun c hc => by rw [hY, g_k _ _ hc, g_k _ _ hc, g_k _ _ hc]
  have yf : ∀ z, z ≠ 11 → z ≠ 12 → z ≠ 14 → Y.1 0 z = X.1 0 z := fun z a b d => by rw [hY, g_j _ _ d, g_j _ _ b, g_j _ _ a]
  have y2 : Y.1 0 11 = nI P ∧ Y.1 0 12 = nI ih ∧ Y.1 0 14 = nI il := by
    rw [hY]; refine ⟨?_, ?_, ?_⟩ <;> simp [g_if]
  have nc : ∀ c, c ≠ 56 → N.1 c = M.1 c := fun c hc => by rw [hN, g_k _ _ hc, g_k _ _ hc, g_k _ _ hc, g_k _ _ hc]
  have nf : ∀ z, z ≠ 0 → z ≠ 2 → z ≠ 3 → z ≠ 12 → N.1 56 z = M.1 56 z := fun z a b d e => by rw [hN, g_j _ _ e, g_j _ _ d, g_j _ _ b, g_j _ _ a]
  have n2 : N.1 56 0 = nI P ∧ N.1 56 2 = nI l.length ∧ N.1 56 3 = nI ih ∧ N.1 56 12 = nI il := by
    rw [hN]; refine ⟨?_, ?_, ?_, ?_⟩ <;> simp [g_if]
  have pY : x_row Y.1 17 l := by unfold x_row at v5 ⊢; rw [yc 17 (by decide), yc (17 + 1) (by decide)]; exact v5
  obtain ⟨X1, x1, x2, x3⟩ := s_X4_become fu hfu (r := 1) (q := 17) (by decide) (by decide) (by decide) pY
  have z0 : X1.1 0 = Y.1 0 := x3.1 0 (by decide) (by decide)
  obtain ⟨-, ⟨X2, u1, u2, u3⟩⟩ := s_img_loop fu (hc := ih) (by omega) ih 0 fu X1 (by rw [z0]; exact y2.2.1) (by omega) (by omega)
  obtain ⟨-, ⟨M', m1, m2, m3, m4, m5⟩⟩ := s_m_img60 fu hfu 60 0 fu N (by omega) (by omega)
  rw [x1, e_cv, show (0 : Int32) = nI 0 from rfl, u1, m1, n2.2.2.1]
  have xc : ∀ c, (3 ≤ c ∧ c < 25) ∨ 30 ≤ c → X2.1 c = X.1 c := fun c hc' => by rw [u2 c (by omega), x3.1 c (by omega) (by omega), yc c (by omega)]
  have x0 : X2.1 0 = Y.1 0 := by rw [u2 0 (by omega), z0]
  have xr : ∀ i, ¬ i < ih → X2.1 (25 + i) = X.1 (25 + i) := fun i hi => by rw [u2 _ (by omega), x3.1 _ (by omega) (by omega), yc _ (by omega)]
  have xi' : ∀ i, i < ih → ∀ z, z < 5 → X2.1 (25 + i) z = X.1 (20 + i) z := fun i hi z hz => by rw [u3 i (by omega) hi z hz, x3.1 _ (by omega) (by omega), yc _ (by omega)]
  have mc : ∀ c, c ≠ 56 → c ≠ 57 → c ≠ 60 → M'.1 c = M.1 c := fun c a b d => by rw [m2 c b d, nc c a]
  have em : M'.1 56 = N.1 56 := m2 56 (by decide) (by decide)
  have mf : ∀ z, z ≠ 0 → z ≠ 2 → z ≠ 3 → z ≠ 12 → M'.1 56 z = M.1 56 z := fun z a b d e => by rw [em, nf z a b d e]
  obtain ⟨tc', law', r1, r2, r3, r4, r5, r6, r7⟩ := h3
  have etc : tc' = tc := by
    rw [r3] at v16
    exact (n_eq (by omega) (by omega)).mp v16
  subst etc
  obtain ⟨hc', q1, q2, q3, q4⟩ := h2
  have ehc : hc' = hc := by
    rw [q2] at v13
    exact (n_eq (by omega) (by omega)).mp v13
  subst ehc
  have hT : rlT X2.1 M'.1 := by
    refine ⟨tc', il, r1, v18, by rw [x0, yf 13 (by decide) (by decide) (by decide)]; exact r3, by rw [mf 11 (by decide) (by decide) (by decide) (by decide)]; exact r4, by rw [x0]; exact y2.2.2, by rw [em]; exact n2.2.2.2, fun t ht => ?_⟩
    obtain ⟨T, a, b⟩ := r7 t ht
    refine ⟨T, a.fr (xc _ (by omega)) (xc _ (by omega)) (xc _ (by omega)), ?_⟩
    unfold m_text at b ⊢
    rw [mc 62 (by decide) (by decide) (by decide), mc 63 (by decide) (by decide) (by decide)]; exact b
  refine ⟨_, X2, M', rfl, rfl, ⟨P, l, v1, v2, by rw [x0]; exact y2.1, by rw [em]; exact n2.1, ?_, by rw [em]; exact n2.2.1, fun p hp => by rw [m3 p (by omega) (by omega), nc 64 (by decide)]; exact v7 p hp, v8⟩, ⟨ih, by omega, by rw [x0]; exact y2.2.1, by rw [em]; exact n2.2.2.1, fun i hi => ?_⟩, hT, h4.fr (by rw [xc 7 (by omega)]) (xc 8 (by omega)) (mf 8 (by decide) (by decide) (by decide) (by decide)) (mc 61 (by decide) (by decide) (by decide)), h5.fr (mc 70 (by decide) (by decide) (by decide)), h6.fr (fun c _ _ => xc c (by omega)) (mc 66 (by decide) (by decide) (by decide)) (mc 67 (by decide) (by decide) (by decide)) (mc 68 (by decide) (by decide) (by decide)), ⟨th, t1, by rw [xc 16 (by omega)]; exact t2, by rw [mf 13 (by decide) (by decide) (by decide) (by decide)]; exact t3, fun _ => ⟨P, l, ih, il, ih, tc', v1, v2, by rw [xc 16 (by omega)]; exact v3, by rw [mf 14 (by decide) (by decide) (by decide) (by decide)]; exact v4, ?_, by rw [mf 15 (by decide) (by decide) (by decide) (by decide)]; exact v6, by rw [mc 64 (by decide) (by decide) (by decide)]; exact v7, v8, by rw [xc 16 (by omega)]; exact v9, by rw [mf 16 (by decide) (by decide) (by decide) (by decide)]; exact v10, by rw [xc 16 (by omega)]; exact v11, by rw [mf 17 (by decide) (by decide) (by decide) (by decide)]; exact v12, by rw [x0]; exact y2.2.1, by omega, Nat.le_refl _, by rw [x0, yf 13 (by decide) (by decide) (by decide)]; exact r3, v17, v18, fun i hi => ?_⟩⟩⟩
  · unfold x_row at x2 ⊢
    rw [u2 1 (by omega), u2 (1 + 1) (by omega)]; exact x2
  · obtain ⟨k, mo, bb, ff, ss, ⟨a0, a1, a2, a3, a4, a5⟩, ⟨b0, b1, b2, b3, b4, b5⟩, hr⟩ := q4 i (by omega)
    obtain ⟨b, f, s, w0, w1, w2, w3, w4, w5, w6, w7, w8⟩ := v19 i hi
    refine ⟨k, mo, b, f, s, ⟨?_, ?_, ?_, ?_, ?_, a5⟩, ⟨?_, ?_, ?_, ?_, ?_, b5⟩, w8⟩
    · rw [xi' i hi 0 (by decide), w0, a0]
    · rw [xi' i hi 1 (by decide), w1, a1]
    · rw [xi' i hi 2 (by decide), w2]
    · rw [xi' i hi 3 (by decide), w3]
    · rw [xi' i hi 4 (by decide), w4]
    · rw [mc 58 (by decide) (by decide) (by decide)]; exact b0
    · rw [mc 59 (by decide) (by decide) (by decide)]; exact b1
    · rw [m5 _ (by omega), nc 65 (by decide)]; exact w5
    · rw [m5 _ (by omega), nc 65 (by decide)]; exact w6
    · rw [m5 _ (by omega), nc 65 (by decide)]; exact w7
  · unfold x_row at v5 ⊢
    rw [xc 17 (by omega), xc (17 + 1) (by omega)]; exact v5
  · obtain ⟨b, f, s, w0, w1, w2, w3, w4, w5, w6, w7, w8⟩ := v19 i hi
    refine ⟨b, f, s, ?_, ?_, ?_, ?_, ?_, ?_, ?_, ?_, w8⟩
    · rw [xi' i hi 0 (by decide), xc (20 + i) (by omega)]
    · rw [xi' i hi 1 (by decide), xc (20 + i) (by omega)]
    · rw [xc (20 + i) (by omega)]; exact w2
    · rw [xc (20 + i) (by omega)]; exact w3
    · rw [xc (20 + i) (by omega)]; exact w4
    · rw [mc 65 (by decide) (by decide) (by decide)]; exact w5
    · rw [mc 65 (by decide) (by decide) (by decide)]; exact w6
    · rw [mc 65 (by decide) (by decide) (by decide)]; exact w7
