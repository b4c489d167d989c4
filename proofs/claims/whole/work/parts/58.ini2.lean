/-! the first state, the memories -/
/-- the tape told -/
theorem s_ini_loop (fu : Nat) : ∀ (q i fn : Nat) (σ : ow_S), i + q = 40 → q < fn → σ.1 7 1 = nI i → (∀ z, z < i → σ.1 8 z = nI (B40 z)) → ∃ X, f_X8_ini fu fn (nI i) σ = (ow_cl (f_X8_text fu X) fun _ σ => some σ) ∧ X.1 7 1 = nI 40 ∧ (∀ z, z < 40 → X.1 8 z = nI (B40 z)) ∧ (∀ c z, c ≠ 8 → ¬(c = 7 ∧ z = 1) → X.1 c z = σ.1 c z) ∧ X.2 = σ.2 := by
  intro q
  induction q with
  | zero =>
    intro i fn σ hi hf h1 h2
    obtain ⟨fn, rfl⟩ : ∃ q, fn = q + 1 := ⟨fn - 1, by omega⟩
    obtain rfl : i = 40 := by omega
    refine ⟨σ, ?_, h1, h2, fun _ _ _ _ => rfl, rfl⟩
    rw [f_X8_ini, if_pos (show nI (ow_sl.getD 0 0) ≤ nI 40 by decide)]
  | succ q ih =>
    intro i fn σ hi hf h1 h2
    obtain ⟨fn, rfl⟩ : ∃ q, fn = q + 1 := ⟨fn - 1, by omega⟩
    have hne : ¬ nI (ow_sl.getD 0 0) ≤ nI i := by
      show ¬ nI 40 ≤ nI i
      rw [n_le (by decide) (by omega)]; omega
    have htk : f_X3_take fu (ow_ch 0 (nI i)) σ = some (ow_sI (ow_sI σ 8 i (nI (B40 i))) 7 1 (nI (i + 1))) := by
      rw [f_X3_take, h1, if_neg (show ¬ (160 : Int32) ≤ nI i by rw [show (160 : Int32) = nI 160 from rfl, n_le (by decide) (by omega)]; omega), e_ckn _ (by omega) (by omega), n_cl (a := i) (by omega), e_let, e_let, g_k _ _ (show 7 ≠ 8 by decide), h1, B40_ch i (by omega), show nI i + (1 : Int32) = nI (i + 1) from n_add i 1]
    obtain ⟨X, x1, x2, x3, x4, x5⟩ := ih (i + 1) fn (ow_sI (ow_sI σ 8 i (nI (B40 i))) 7 1 (nI (i + 1))) (by omega) (by omega) (g_same _ _ _ _) (fun z hz => by
      rw [g_k _ _ (show 8 ≠ 7 by decide)]
      by_cases e : z = i
      · subst e; exact g_same _ _ _ _
      · rw [g_j _ _ e]; exact h2 z (by omega))
    refine ⟨X, ?_, x2, x3, fun c z a b => ?_, x5⟩
    · rw [f_X8_ini, if_neg hne, show (ow_sl.getD 0 0) = 40 from rfl, e_ckn _ (by omega) (by omega), htk, e_cv, e_let, show nI i + (1 : Int32) = nI (i + 1) from n_add i 1]; exact x1
    · rw [x4 c z a b]
      by_cases e : c = 7
      · subst e
        rw [g_j _ _ (by intro h; exact b ⟨rfl, h⟩), g_k _ _ (show 7 ≠ 8 by decide)]
      · rw [g_k _ _ e, g_k _ _ a]
theorem i8_7 : i_X8.1 7 1 = nI 0 ∧ i_X8.1 0 11 = nI 10 ∧ i_X8.1 0 12 = nI 0 ∧ i_X8.1 0 13 = nI 0 ∧ i_X8.1 0 14 = nI 0 ∧ i_X8.1 1 1 = nI 0 ∧ i_X8.1 16 2 = nI 0 := by decide +kernel
theorem i8_s : ∀ s, s < 4 → i_X8.1 (48 + 2 * s) 1 = nI 0 - 1 ∧ i_X8.1 (48 + 2 * s) 2 = nI 0 ∧ ∀ j, j < 40 → i_X8.1 (48 + 2 * s + 1) j = 0 := by decide +kernel
theorem m_fill_at (k : Nat) (L : List Int32) (c z : Nat) (σ : ow_S) : ∀ n, (m_fill k L n σ).1 c z = if c = k ∧ z < n then L.getD z 0 else σ.1 c z := by
  intro n
  induction n with
  | zero => rw [if_neg (by omega)]; rfl
  | succ n ih =>
    by_cases h : c = k ∧ z = n
    · obtain ⟨rfl, rfl⟩ := h
      rw [if_pos ⟨rfl, by omega⟩]; exact g_same _ _ _ _
    · by_cases hk : c = k
      · subst hk
        rw [m_fill, g_j _ _ (by omega), ih]
        by_cases hz : z < n
        · rw [if_pos ⟨rfl, hz⟩, if_pos ⟨rfl, by omega⟩]
        · rw [if_neg (by omega), if_neg (by omega)]
      · rw [m_fill, g_k _ _ hk, ih, if_neg (by omega), if_neg (by omega)]
theorem m_cp_at (c z : Nat) : ∀ (q i : Nat) (σ : ow_S), (m_cp q i σ).1 c z = if c = 61 ∧ i ≤ z ∧ z < i + q then σ.1 69 z else σ.1 c z := by
  intro q
  induction q with
  | zero => intro i σ; rw [if_neg (by omega)]; rfl
  | succ q ih =>
    intro i σ
    rw [m_cp, ih, g_k _ _ (show 69 ≠ 61 by decide)]
    by_cases hc : c = 61
    · subst hc
      by_cases hz : z = i
      · subst hz; rw [if_neg (by omega), if_pos (by omega), g_same]
      · rw [g_j _ _ hz]
        by_cases h : i ≤ z ∧ z < i + (q + 1)
        · rw [if_pos (by omega), if_pos (by omega)]
        · rw [if_neg (by omega), if_neg (by omega)]
    · rw [if_neg (by omega), if_neg (by omega), g_k _ _ hc]
def i9_r (c z : Nat) : Int32 := if c = 70 ∧ z < 96 then m9_L70.getD z 0 else if c = 69 ∧ z < 40 then m9_L69.getD z 0 else if c = 66 ∧ z < 4 then m9_L66.getD z 0 else ow_0.1 c z
theorem i9_20 (c z : Nat) : s9_20.1 c z = if c = 70 ∧ z < 96 then m9_L70.getD z 0 else if c = 69 ∧ z < 40 then m9_L69.getD z 0 else if c = 66 ∧ z < 4 then m9_L66.getD z 0 else (ow_sI ow_0 56 0 10).1 c z := by
  show (m_fill 70 m9_L70 96 s9_14).1 c z = _
  rw [m_fill_at]
  show (if c = 70 ∧ z < 96 then m9_L70.getD z 0 else (m_fill 69 m9_L69 40 s9_13).1 c z) = _
  rw [m_fill_at]
  show (if c = 70 ∧ z < 96 then m9_L70.getD z 0 else if c = 69 ∧ z < 40 then m9_L69.getD z 0 else (m_fill 66 m9_L66 4 s9_10).1 c z) = _
  rw [m_fill_at]
  rfl
theorem i9_at (c z : Nat) (hc : c ≠ 56) : i_X9.1 c z = if c = 61 ∧ 0 ≤ z ∧ z < 0 + 40 then i9_r 69 z else i9_r c z := by
  have h : ∀ c, c ≠ 56 → s9_20.1 c z = i9_r c z := fun c hc => by
    rw [i9_20, g_k _ _ hc]; rfl
  show (ow_sI (m_cp 40 0 s9_20) 56 8 40).1 c z = _
  rw [g_k _ _ hc, m_cp_at, h 69 (by decide), h c hc]
theorem i9_56z (z : Nat) : i_X9.1 56 z = if z = 8 then 40 else if z = 0 then 10 else ow_0.1 56 z := by
  show (ow_sI (m_cp 40 0 s9_20) 56 8 40).1 56 z = _
  by_cases h8 : z = 8
  · subst h8; rw [if_pos rfl]; exact g_same _ _ _ _
  · rw [g_j _ _ h8, if_neg h8, m_cp_at, if_neg (by omega), i9_20, if_neg (by omega), if_neg (by omega), if_neg (by omega)]
    by_cases h0 : z = 0
    · subst h0; rw [if_pos rfl]; exact g_same _ _ _ _
    · rw [g_j _ _ h0, if_neg h0]
theorem i9_56 : i_X9.1 56 8 = nI 40 ∧ i_X9.1 56 0 = nI 10 ∧ i_X9.1 56 2 = nI 0 ∧ i_X9.1 56 3 = nI 0 ∧ i_X9.1 56 11 = nI 0 ∧ i_X9.1 56 12 = nI 0 ∧ i_X9.1 56 13 = nI 0 := by
  refine ⟨?_, ?_, ?_, ?_, ?_, ?_, ?_⟩ <;> rw [i9_56z] <;> rfl
theorem i9_61 (i : Nat) (hi : i < 40) : i_X9.1 61 i = nI (B40 i) := by
  rw [i9_at _ _ (by decide), if_pos (by omega)]
  exact (by decide +kernel : ∀ i, i < 40 → i9_r 69 i = nI (B40 i)) i hi
theorem i9_70 (i : Nat) (hi : i < 12) (z : Nat) (hz : z < 8) : i_X9.1 70 (8 * i + z) = nI (mpad i z) := by
  rw [i9_at _ _ (by decide), if_neg (by omega)]
  exact (by decide +kernel : ∀ i, i < 12 → ∀ z, z < 8 → i9_r 70 (8 * i + z) = nI (mpad i z)) i hi z hz
theorem i9_s (s : Nat) (hs : s < 4) : i_X9.1 66 s = nI 0 - 1 ∧ i_X9.1 67 s = nI 0 ∧ ∀ j, j < 40 → i_X9.1 68 (40 * s + j) = 0 := by
  refine ⟨?_, ?_, fun j hj => ?_⟩
  · rw [i9_at _ _ (by decide), if_neg (by omega)]
    exact (by decide +kernel : ∀ i, i < 4 → i9_r 66 i = nI 0 - 1) s hs
  · rw [i9_at _ _ (by decide), if_neg (by omega)]; rfl
  · rw [i9_at _ _ (by decide), if_neg (by omega)]; rfl
theorem s_ini (fu : Nat) (hfu : 1000 ≤ fu) : ∃ X1 r M1, f_X8_ini fu fu 0 i_X8 = some X1 ∧ f_X9_text fu i_X9 = some (r, M1) ∧ Rl X1 M1 ∧ ∀ k j, ¬(k = 7 ∧ j = 6) → X1.2.2 k j = i_X8.2.2 k j := by
  obtain ⟨a7, a11, a12, a13, a14, a1, a16⟩ := i8_7
  obtain ⟨c8, c0, c2, c3, c11, c12, c13⟩ := i9_56
  obtain ⟨X, x1, x2, x3, x4, x5⟩ := s_ini_loop fu 40 0 fu i_X8 rfl (by omega) a7 (fun z hz => by omega)
  obtain ⟨r, X1, p1, w, d71, R⟩ := s_X3_readInto (B := B40) (n := 40) (h := 30) fu hfu (by decide) (σ := X) ⟨x2, by decide, x3, B40_lt⟩
  obtain ⟨To, -⟩ := s_X9_text (B := B40) (n := 40) (ru := 0) fu hfu (by decide) (σ := i_X9) ⟨c8, by decide, i9_61, B40_lt⟩ (fun i z hi hz => i9_70 i hi z hz) c11
  obtain ⟨e0, e1, e2, ht, rfl, hx⟩ := R.resolve_right (fun ⟨kf, hf, _⟩ => (tO_tF B40_tO hf).elim)
  obtain ⟨M1, p2, wm, d8, d11, hm⟩ := To e0 e1 e2 ht
  have wc : ∀ c z, c ≠ 7 → c ≠ 8 → c ≠ 30 → c ≠ 31 → c ≠ 32 → X1.1 c z = i_X8.1 c z := fun c z h1 h2 h3 h4 h5 => (w.1 c z h3 h4 h5 (by omega)).trans (x4 c z h2 (by omega))
  have mc : ∀ c z, c ≠ 56 → c ≠ 62 → c ≠ 63 → c ≠ 71 → M1.1 c z = i_X9.1 c z := fun c z h1 h2 h3 h4 => wm.1 c z (by omega) (by omega) (by omega) h4
  have mf : ∀ z, (z < 8 ∨ (8 < z ∧ z < 11) ∨ (11 < z ∧ z < 24)) → M1.1 56 z = i_X9.1 56 z := fun z hz => wm.1 56 z (by omega) (by omega) (by omega) (by omega)
  have y0 : ∀ z, z ≠ 13 → (ow_sI X1 0 13 (nI 1)).1 0 z = i_X8.1 0 z := fun z hz => (g_j _ _ hz).trans (wc 0 z (by decide) (by decide) (by decide) (by decide) (by decide))
  have yc : ∀ c z, c ≠ 0 → c ≠ 7 → c ≠ 8 → c ≠ 30 → c ≠ 31 → c ≠ 32 → (ow_sI X1 0 13 (nI 1)).1 c z = i_X8.1 c z := fun c z h0 h1 h2 h3 h4 h5 => by
    rw [g_k _ _ h0]; exact wc c z h1 h2 h3 h4 h5
  have z13 : X.1 0 13 = nI 0 := (x4 0 13 (by decide) (by decide)).trans a13
  have z13' : X1.1 0 13 = nI 0 := (wc 0 13 (by decide) (by decide) (by decide) (by decide) (by decide)).trans a13
  have e8 : f_X8_text fu X = some (nI 1 - (1 : Int32), ow_sI X1 0 13 (nI 1)) := by
    rw [f_X8_text, z13, if_pos (show nI 0 < (6 : Int32) by decide), e_ckn _ (by decide) (by decide), e_let, n_cl (a := 0) (by decide), p1, e_cl, if_pos (by decide), z13', show nI 0 + (1 : Int32) = nI 1 from rfl, e_let, g_same]
  refine ⟨ow_sI X1 0 13 (nI 1), _, M1, ?_, p2, ⟨?_, ?_, ?_, ?_, ?_, ?_, ?_⟩, fun k j h => ?_⟩
  · show f_X8_ini fu fu (nI 0) i_X8 = _
    rw [x1, e8, e_cl]
  · refine ⟨10, [], by decide, by decide, (y0 11 (by decide)).trans a11, (mf 0 (by decide)).trans c0, ⟨(yc 1 1 (by decide) (by decide) (by decide) (by decide) (by decide) (by decide)).trans a1, by decide, fun p hp => by simp at hp⟩, (mf 2 (by decide)).trans c2, fun p hp => by simp at hp, fun v hv => by simp at hv⟩
  · exact ⟨0, by decide, (y0 12 (by decide)).trans a12, (mf 3 (by decide)).trans c3, fun h hh => by omega⟩
  · refine ⟨1, 0, by decide, by decide, g_same _ _ _ _, d11, (y0 14 (by decide)).trans a14, (mf 12 (by decide)).trans c12, fun t ht => ?_⟩
    obtain rfl : t = 0 := by omega
    exact ⟨_, hx.fr (g_k _ _ (by decide)) (g_k _ _ (by decide)) (g_k _ _ (by decide)), hm⟩
  · exact ⟨B40, 0, by decide, by rw [g_k _ _ (show 7 ≠ 0 by decide)]; exact d71, d8, B40_lt, fun i hi => by omega⟩
  · intro i z hi hz
    rw [mc 70 _ (by decide) (by decide) (by decide) (by decide)]; exact i9_70 i hi z hz
  · intro s hs
    obtain ⟨s1, s2, s3⟩ := i8_s s hs
    obtain ⟨t1, t2, t3⟩ := i9_s s hs
    refine ⟨0, 0, by decide, by decide, ?_, ?_, ?_, ?_, fun j hj => ?_⟩
    · rw [yc _ _ (by omega) (by omega) (by omega) (by omega) (by omega) (by omega)]; exact s1
    · rw [mc 66 _ (by decide) (by decide) (by decide) (by decide)]; exact t1
    · rw [yc _ _ (by omega) (by omega) (by omega) (by omega) (by omega) (by omega)]; exact s2
    · rw [mc 67 _ (by decide) (by decide) (by decide) (by decide)]; exact t2
    · rw [yc _ _ (by omega) (by omega) (by omega) (by omega) (by omega) (by omega), mc 68 _ (by decide) (by decide) (by decide) (by decide), s3 j hj, t3 j hj]
  · exact ⟨0, by decide, (yc 16 2 (by decide) (by decide) (by decide) (by decide) (by decide) (by decide)).trans a16, (mf 13 (by decide)).trans c13, fun h => absurd h (by decide)⟩
  · show X1.2.2 k j = _
    rw [w.2.2 k j h, x5]
/-! no reference of the class's cells leaves them -/
theorem gr_lp {m arr base w : Nat} {f : Nat → ow_S → ow_S} (hf : ∀ (k : Nat) (σ : ow_S), k + w ≤ m → gr m σ → gr m (f k σ)) (hw : 0 < w) : ∀ (q i : Nat) (σ : ow_S), base + w * (i + q) ≤ m → gr m σ → gr m (i_lp arr base w f q i σ) := by
  intro q
  induction q with
  | zero => intro i σ _ h; exact h
  | succ q ih =>
    intro i σ hm h
    have e : w * i + w ≤ w * (i + (q + 1)) := by rw [← Nat.mul_succ]; exact Nat.mul_le_mul_left _ (by omega)
    refine ih (i + 1) _ (by rw [show i + 1 + q = i + (q + 1) by omega]; exact hm) (gr_sR (hf _ _ (by omega) h) _ _ (by omega))
theorem gr_00 (m : Nat) : gr m ow_0 := fun k j t _ h => by cases h
theorem gr_iX0 {m k : Nat} {σ : ow_S} (_ : k + 1 ≤ m) (h : gr m σ) : gr m (i_X0 k σ) := gr_sI (gr_sI (gr_sI (gr_sI (gr_sI h _ _ _) _ _ _) _ _ _) _ _ _) _ _ _
theorem gr_iX2 {m k : Nat} {σ : ow_S} (h : gr m σ) : gr m (i_X2 k σ) := gr_sL h _ _
theorem gr_iX4 {m k : Nat} {σ : ow_S} (hk : k + 2 ≤ m) (h : gr m σ) : gr m (i_X4 k σ) := gr_sI (gr_sR h _ _ (by omega)) _ _ _
theorem gr_iX5 {m k : Nat} {σ : ow_S} (hk : k + 2 ≤ m) (h : gr m σ) : gr m (i_X5 k σ) := gr_sI (gr_sI (gr_sR h _ _ (by omega)) _ _ _) _ _ _
theorem gr_iX6 {m k : Nat} {σ : ow_S} (hk : k + 3 ≤ m) (h : gr m σ) : gr m (i_X6 k σ) := gr_sI (gr_sI (gr_sR (gr_sR h _ _ (by omega)) _ _ (by omega)) _ _ _) _ _ _
theorem gr_iX3 {m k : Nat} {σ : ow_S} (hk : k + 2 ≤ m) (h : gr m σ) : gr m (i_X3 k σ) := gr_sN (gr_sI (gr_sI (gr_sI (gr_sI (gr_sI (gr_sR h k 0 (by omega)) _ _ _) _ _ _) _ _ _) _ _ _) _ _ _) k 6
theorem gr_iX7 {m k : Nat} {σ : ow_S} (hk : k + 3 ≤ m) (h : gr m σ) : gr m (i_X7 k σ) := gr_sN (gr_sR (gr_sR h k 0 (by omega)) k 1 (by omega)) k 2
theorem gr_s16 {m : Nat} {σ : ow_S} (hm : 25 ≤ m) (h : gr m σ) : gr m (s1_6 σ) := gr_sI (gr_sI (gr_sI (gr_sI (gr_sR (gr_sR (gr_iX4 (k := 17) (by omega) h) 16 0 (by omega)) 16 1 (by omega)) _ _ _) _ _ _) _ _ _) _ _ _
theorem gr_iX1 {m : Nat} {σ : ow_S} (hm : 25 ≤ m) (h : gr m σ) : gr m (i_X1 σ) := by
  unfold i_X1 s1_7
  exact gr_lp (fun k σ hk h => gr_iX0 hk h) (by decide) 5 0 _ (by omega) (gr_s16 hm h)
theorem gr_81 : gr 56 s8_1 := gr_sR (gr_iX4 (k := 1) (by decide) (gr_00 56)) 0 0 (by decide)
theorem gr_82 : gr 56 s8_2 := gr_sR (gr_iX4 (k := 3) (by decide) gr_81) 0 1 (by decide)
theorem gr_83 : gr 56 s8_3 := gr_sR gr_82 0 2 (by decide)
theorem gr_84 : gr 56 s8_4 := gr_sR (gr_iX0 (k := 6) (by decide) gr_83) 0 3 (by decide)
theorem gr_85 : gr 56 s8_5 := gr_sR (gr_iX3 (k := 7) (by decide) gr_84) 0 4 (by decide)
theorem gr_86 : gr 56 s8_6 := gr_sR gr_85 0 5 (by decide)
theorem gr_87 : gr 56 s8_7 := gr_sR (gr_iX7 (k := 10) (by decide) gr_86) 0 6 (by decide)
theorem gr_88 : gr 56 s8_8 := gr_sR (gr_iX2 (k := 13) gr_87) 0 7 (by decide)
theorem gr_89 : gr 56 s8_9 := gr_sR gr_88 0 8 (by decide)
theorem gr_810 : gr 56 s8_10 := gr_sR gr_89 0 9 (by decide)
theorem gr_811 : gr 56 s8_11 := gr_sR (gr_iX1 (by decide) gr_810) 0 10 (by decide)
theorem gr_815 : gr 56 s8_15 := gr_sI (gr_sI (gr_sI (gr_sI gr_811 _ _ _) _ _ _) _ _ _) _ _ _
theorem gr_816 : gr 56 s8_16 := by
  unfold s8_16
  exact gr_lp (fun k σ hk h => gr_iX0 hk h) (by decide) 5 0 _ (by decide) gr_815
theorem gr_817 : gr 56 s8_17 := by
  unfold s8_17
  exact gr_lp (fun k σ hk h => gr_iX6 hk h) (by decide) 6 0 _ (by decide) gr_816
theorem gr_8 : gr 56 i_X8 := by
  unfold i_X8 s8_18
  exact gr_lp (fun k σ hk h => gr_iX5 hk h) (by decide) 4 0 _ (by decide) gr_817
