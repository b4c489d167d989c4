/-! rows by lot: drawn, odds -/
theorem s_lot {n : Nat} (hn : n < 2147483648) : ow_lrem (lN n * (48271 : Int64)) (2147483647 : Int64) = lN (n * 48271 % 2147483647) := by
  rw [show (48271 : Int64) = lN 48271 from rfl, lN_mul, show (2147483647 : Int64) = lN 2147483647 from rfl]
  exact pk_lRem (by omega) (by decide) (by decide)
theorem s_lot2 {n k : Nat} (hn : n < 2147483648) (h0 : 0 < k) (hk : k < 2 ^ 31) : ow_lrem (lN n) (lN k) = lN (n % k) := pk_lRem (by omega) h0 (by omega)
theorem s_lN0 {k : Nat} (h0 : 0 < k) (hk : k < 2 ^ 31) : ¬ lN k = 0 := by
  rw [show (0 : Int64) = lN 0 from rfl, lN_eq hk (by decide)]; omega
theorem s_below (fu : Nat) {σ : ow_S} {n k : Nat} (h : σ.2.1 13 = lN n) (hn : n < 2147483648) (h0 : 0 < k) (hk : k < 2 ^ 31) : f_X2_below fu (nI k) σ = some (nI (n * 48271 % 2147483647 % k), ow_sL σ 13 (lN (n * 48271 % 2147483647))) := by
  have hlt : n * 48271 % 2147483647 < 2147483647 := Nat.mod_lt _ (by decide)
  rw [f_X2_below, e_let, h, s_lot hn, if_neg (show ¬ nI k ≤ 0 by rw [show (0 : Int32) = nI 0 from rfl, n_le hk (by decide)]; omega), gL_s, nI_l hk, e_ck _ (s_lN0 h0 hk), s_lot2 (by omega) h0 hk, lN_i]
theorem s_lots_loop (fu : Nat) {S : Nat} (hS : S ≤ 60) (x2 : Int32) : ∀ (i fn n : Nat) (g : Nat → Int32) (X M : ow_S), X.2.1 13 = lN n → n < 2147483648 → x_rowg X 3 S g → m_g M S g → i < S → i < fn → ∃ X' M' g', L_X8_drawTrialRow_45 fu fn x2 (nI i) X = some (x2, X') ∧ L_X9_lots_40 fu fn (lN n) x2 (nI i) M = some (x2, M') ∧ x_rowg X' 3 S g' ∧ m_g M' S g' ∧ (∀ c, c ≠ 3 → c ≠ 4 → X'.1 c = X.1 c) ∧ m_fr M M' := by
  intro i
  induction i with
  | zero =>
    intro fn n g X M hX hn hx hm hi hf
    obtain ⟨fn, rfl⟩ : ∃ q, fn = q + 1 := ⟨fn - 1, by omega⟩
    refine ⟨X, M, g, ?_, ?_, hx, hm, fun _ _ _ => rfl, m_fr.rf M⟩
    · rw [L_X8_drawTrialRow_45, if_pos (by decide)]
    · rw [L_X9_lots_40, if_pos (by decide)]
  | succ i ih =>
    intro fn n g X M hX hn hx hm hi hf
    obtain ⟨fn, rfl⟩ : ∃ q, fn = q + 1 := ⟨fn - 1, by omega⟩
    have hlt : n * 48271 % 2147483647 < 2147483647 := Nat.mod_lt _ (by decide)
    have hb := s_below fu (k := i + 1 + 1) hX hn (by omega) (by omega)
    obtain ⟨w, hw⟩ : ∃ w, w = n * 48271 % 2147483647 % (i + 1 + 1) := ⟨_, rfl⟩
    have hw2 : w < i + 1 + 1 := by rw [hw]; exact Nat.mod_lt _ (by omega)
    obtain ⟨u, hu⟩ : ∃ u, u = n * 48271 % 2147483647 := ⟨_, rfl⟩
    have e1 := s_lot hn
    have e2 := s_lot2 (n := n * 48271 % 2147483647) (k := i + 1 + 1) (by omega) (by omega) (by omega)
    rw [← hw, ← hu] at hb
    rw [← hu] at e1 hlt
    rw [← hw, ← hu] at e2
    have hx' : x_rowg (ow_sL X 13 (lN u)) 3 S g := hx
    obtain ⟨X1, a1, a2, a3⟩ := s_X4_change fu hx' (i := i + 1) (j := w) (by omega) (by omega)
    have hm1 := (hm.up (i + 1) (M.1 74 w)).up w (M.1 74 (i + 1))
    rw [hm.2 w (by omega), hm.2 (i + 1) (by omega)] at hm1
    have hX1 : X1.2.1 13 = lN u := by rw [a3.2]; exact gL_s X 13 _
    obtain ⟨X2, M2, g', b1, b2, b3, b4, b5, b6⟩ := ih fn u _ X1 _ hX1 (by omega) a2 hm1 (by omega) (by omega)
    refine ⟨X2, M2, g', ?_, ?_, b3, b4, fun c h1 h2 => (b5 c h1 h2).trans (a3.1 c h1 h2), ((m_fr.w M _ _).tr (m_fr.w _ _ _)).tr b6⟩
    · rw [L_X8_drawTrialRow_45, if_neg (show ¬ nI (i + 1) < (1 : Int32) by rw [show (1 : Int32) = nI 1 from rfl, n_lt (by omega) (by decide)]; omega), show nI (i + 1) + (1 : Int32) = nI (i + 1 + 1) from n_add _ 1, hb, e_cl, a1, e_cv, e_let, show nI (i + 1) + (-1 : Int32) = nI i from pk_m1 i]
      exact b1
    · rw [L_X9_lots_40, if_neg (show ¬ nI (i + 1) ≤ (0 : Int32) by rw [show (0 : Int32) = nI 0 from rfl, n_le (by omega) (by decide)]; omega), e1, e_let, show nI (i + 1) + (1 : Int32) = nI (i + 1 + 1) from n_add _ 1, nI_l (by omega), e_ck _ (s_lN0 (by omega) (by omega)), e2, e_let, lN_i, e_ckn _ (by omega) (by omega), e_let, e_ckn _ (by omega) (by omega), e_ckn _ (by omega) (by omega), e_let, e_ckn _ (by omega) (by omega), e_let, e_let, n_cl (a := i + 1) (by omega), n_cl (a := w) (by omega), hm.2 w (by omega), hm.2 (i + 1) (by omega), show nI (i + 1) + (-1 : Int32) = nI i from pk_m1 i]
      exact b2
theorem s_lots_m1 (fu fn : Nat) (hf : 0 < fn) (x2 : Int32) (x : Int64) (X M : ow_S) : L_X8_drawTrialRow_45 fu fn x2 (-1) X = some (x2, X) ∧ L_X9_lots_40 fu fn x x2 (-1) M = some (x2, M) := by
  obtain ⟨fn, rfl⟩ : ∃ q, fn = q + 1 := ⟨fn - 1, by omega⟩
  exact ⟨by rw [L_X8_drawTrialRow_45, if_pos (by decide)], by rw [L_X9_lots_40, if_pos (by decide)]⟩
theorem s_draw (fu : Nat) (hfu : 1000 ≤ fu) {X M : ow_S} (h : Rl X M) {n : Nat} (hn : n < 200000) : ∃ v l X' M', f_X8_drawTrialRow fu (nI n) X = some (v, X') ∧ f_X9_lots fu (nI n) M = some (v, M') ∧ x_row X'.1 3 l ∧ m_ws M' l ∧ Rl X' M' ∧ X'.1 0 = X.1 0 := by
  obtain ⟨P, l0, p1, p2, p3, p4, -⟩ := h.1
  have hlt : (n + 1) * 48271 % 2147483647 < 2147483647 := Nat.mod_lt _ (by decide)
  have e0 : (nI n).toInt64 + (1 : Int64) = lN (n + 1) := by rw [nI_l (by omega), lN_1]
  obtain ⟨X0, hX0⟩ : ∃ X0, X0 = ow_sL X 13 (lN (n + 1)) := ⟨_, rfl⟩
  have hb := s_below fu (σ := X0) (n := n + 1) (k := P) (by rw [hX0]; exact gL_s X 13 _) (by omega) (by omega) (by omega)
  have e1 := s_lot (n := n + 1) (by omega)
  have e2 := s_lot2 (n := (n + 1) * 48271 % 2147483647) (k := P) (by omega) (by omega) (by omega)
  obtain ⟨u, hu⟩ : ∃ u, u = (n + 1) * 48271 % 2147483647 := ⟨_, rfl⟩
  rw [← hu] at hb e1 e2 hlt
  obtain ⟨X1, a1, a2, a3⟩ := s_X4_becomeAllBut fu hfu (r := 3) p2 (nI (u % P) + (1 : Int32)) 0 (ow_sL X0 13 (lN u))
  obtain ⟨M1, m1, m2, m3⟩ := s_X9_laysBut fu hfu p2 (nI (u % P) + (1 : Int32)) 0 p4
  obtain ⟨S, hS⟩ : ∃ S, S = (l_but P (nI (u % P) + (1 : Int32)) 0).length := ⟨_, rfl⟩
  have hS60 : S ≤ 60 := by rw [hS]; have := l_but_len P (nI (u % P) + (1 : Int32)) 0; omega
  have c8 : ∀ R : Option (Int32 × ow_S), L_X8_drawTrialRow_45 fu fu (nI (u % P) + (1 : Int32)) (nI S - (1 : Int32)) X1 = R → f_X8_drawTrialRow fu (nI n) X = R := by
    intro R hR
    rw [f_X8_drawTrialRow, f_X2_start, e_let, e_cv, e0, ← hX0, show X0.1 0 11 = nI P by rw [hX0]; exact p3, hb, e_cl, e_let, show (ow_sL X0 13 (lN u)).1 0 11 = nI P by rw [hX0]; exact p3, a1, e_cv, e_let, a2.1, ← hS]; exact hR
  have c9 : ∀ R : Option (Int32 × ow_S), L_X9_lots_40 fu fu (lN u) (nI (u % P) + (1 : Int32)) (nI S - (1 : Int32)) M1 = R → f_X9_lots fu (nI n) M = R := by
    intro R hR
    rw [f_X9_lots, e0, e1, e_let, p4, nI_l (by omega), e_ck _ (s_lN0 (by omega) (by omega)), e2, e_let, lN_i, m1, e_cv, e_let, m2.1, ← hS]; exact hR
  have fin : ∀ (X2 M2 : ow_S), (∀ c, c ≠ 3 → c ≠ 4 → X2.1 c = X1.1 c) → m_fr M1 M2 → Rl X2 M2 ∧ X2.1 0 = X.1 0 := by
    intro X2 M2 w1 w2
    have w : xsb X X2 := fun c h1 h2 _ _ => by
      rw [w1 c h1 h2, a3.1 c h1 h2, hX0]; rfl
    exact ⟨h.sc w.sc (m3.tr w2).sc, w 0 (by decide) (by decide) (by decide) (by decide)⟩
  by_cases c : S = 0
  · have e : nI S - (1 : Int32) = -1 := by rw [c]; rfl
    rw [e] at c8 c9
    obtain ⟨z1, z2⟩ := s_lots_m1 fu fu (by omega) (nI (u % P) + (1 : Int32)) (lN u) X1 M1
    obtain ⟨f1, f2⟩ := fin X1 M1 (fun _ _ _ => rfl) (m_fr.rf M1)
    exact ⟨_, _, X1, M1, c8 _ z1, c9 _ z2, a2, m2, f1, f2⟩
  · have e : nI S - (1 : Int32) = nI (S - 1) := n_sub (b := 1) (by omega)
    rw [e] at c8 c9
    have hx : x_rowg X1 3 S (fun p => (l_but P (nI (u % P) + (1 : Int32)) 0).getD p 0) := by rw [hS]; exact a2.g
    have hm : m_g M1 S (fun p => (l_but P (nI (u % P) + (1 : Int32)) 0).getD p 0) := by rw [hS]; exact m2
    have hX1 : X1.2.1 13 = lN u := by rw [a3.2]; exact gL_s X0 13 _
    obtain ⟨X2, M2, g', b1, b2, b3, b4, b5, b6⟩ := s_lots_loop fu hS60 (nI (u % P) + (1 : Int32)) (S - 1) fu u _ X1 M1 hX1 (by omega) hx hm (by omega) (by omega)
    obtain ⟨f1, f2⟩ := fin X2 M2 b5 b6
    exact ⟨_, _, X2, M2, c8 _ b1, c9 _ b2, b3.row, b4.ws, f1, f2⟩
theorem s_isSeed (fu : Nat) (a : Int32) (X : ow_S) : f_X8_isSeed fu a X = some (inb a 0 99999, X) := by
  unfold inb
  rw [f_X8_isSeed]
  by_cases c : a < 0
  · rw [if_pos c, if_pos c]
  · rw [if_neg c, if_neg c]
    by_cases c1 : (99999 : Int32) < a
    · rw [if_pos c1, if_pos c1]
    · rw [if_neg c1, if_neg c1]
theorem o_drawn (fu : Nat) (hfu : 1000 ≤ fu) (a1 a2 a3 : Int32) : sameI (f_X8_drawn fu a1 a2 a3) (f_X9_drawn fu a1 a2 a3) := by
  intro X M h
  have stop : ∀ v : Int32, ∃ r X' M', some (v, X) = some (r, X') ∧ some (v, M) = some (r, M') ∧ Rl X' M' := fun v => ⟨_, _, _, rfl, rfl, h⟩
  obtain ⟨hc, q1, q2, q3, q4, bb, e1, e2, hb⟩ := s_isHead fu h.2.1 a2
  rw [f_X8_drawn, f_X9_drawn, e1, e2, e_cl, e_cl]
  cases bb with
  | false => exact stop _
  | true =>
    obtain ⟨j, hj, rfl⟩ := hb rfl
    rw [if_pos rfl, if_neg (show ¬ (1 : Int32) = 0 by decide), if_neg (show ¬ (1 : Int32) = 0 by decide), s_isSeed, s_inb, e_cl, e_cl]
    rcases inb_cases (v := a1) (a := 0) (b := 99999) (by decide) (by decide) with i1 | ⟨i1, n, n1, n2, rfl⟩
    · rw [show inb a1 0 99999 = 0 from i1, if_pos rfl, if_pos rfl]; exact stop _
    rw [show inb (nI n) 0 99999 = 1 from i1, if_neg (show ¬ (1 : Int32) = 0 by decide), if_neg (show ¬ (1 : Int32) = 0 by decide), s_inb, e_cl]
    rcases c_le (w := 1) (by decide) a3 with ⟨c1, c2⟩ | ⟨w, hw, rfl, c1, c2⟩
    · rw [show inb a3 0 1 = 0 from c1, if_pos rfl]
      rw [show (1 : Int32) = nI 1 from rfl, c2]; exact stop _
    · have c2' : ∀ {α : Type} (s K : α), (if nI w < 0 then s else if nI w ≤ (1 : Int32) then K else s) = K := c2
      obtain ⟨v, l, X1, M1, x1, m1, x2, m2, hR, h0⟩ := s_draw fu hfu h (n := n) (by omega)
      rw [show inb (nI w) 0 1 = 1 from c1, if_neg (show ¬ (1 : Int32) = 0 by decide), c2', x1, e_cl, m1, e_cl]
      by_cases c : nI w = 0
      · rw [if_pos c, if_pos c]; exact ⟨_, _, _, rfl, rfl, hR⟩
      · rw [if_neg c, if_neg c, e_ckn _ (by omega) (by omega), n_cl (a := j) (by omega), e_let]
        obtain ⟨v2, X4, M4, u1, u2, u3, u4, u5⟩ := s_says2 fu hfu hR (by rw [h0]; exact q2) q1 hj (Or.inr rfl) x2 m2
        rw [u1, e_cl, u2, e_cl]; exact ⟨_, _, _, rfl, rfl, u3⟩
theorem s_gcd_x (fu : Nat) {c n : Nat} (hc : c ≤ 30) (hn : n ≤ 30) (h0 : 0 < n) (σ : ow_S) : ∀ (d fn : Nat), Nat.gcd c n ≤ d → d ≤ 30 → d < fn → L_X8_commonDivisor_2 fu fn (nI c) (nI n) (nI d) σ = some (nI (Nat.gcd c n), σ) := by
  have hg : 0 < Nat.gcd c n := Nat.gcd_pos_of_pos_right c h0
  intro d
  induction d with
  | zero => intro fn h1; omega
  | succ d ih =>
    intro fn h1 h2 hf
    obtain ⟨fn, rfl⟩ : ∃ q, fn = q + 1 := ⟨fn - 1, by omega⟩
    rw [L_X8_commonDivisor_2]
    by_cases c1 : d = 0
    · subst c1
      rw [if_pos (show nI (0 + 1) ≤ (1 : Int32) by decide), show Nat.gcd c n = 1 by omega]; rfl
    · have e0 : ¬ nI (d + 1) = (0 : Int32) := by rw [show (0 : Int32) = nI 0 from rfl, n_eq (by omega) (by decide)]; omega
      have go : ¬ ((d + 1) ∣ c ∧ (d + 1) ∣ n) → L_X8_commonDivisor_21 fu (L_X8_commonDivisor_2 fu fn) (nI c) (nI n) (nI (d + 1)) σ = some (nI (Nat.gcd c n), σ) := by
        intro hno
        rw [L_X8_commonDivisor_21, e_let, show nI (d + 1) + (-1 : Int32) = nI d from pk_m1 d]
        refine ih fn ?_ (by omega) (by omega)
        rcases Nat.lt_or_ge (Nat.gcd c n) (d + 1) with z | z
        · omega
        · have : Nat.gcd c n = d + 1 := by omega
          exact absurd ⟨this ▸ Nat.gcd_dvd_left c n, this ▸ Nat.gcd_dvd_right c n⟩ hno
      have k1 : ow_irem (nI c) (nI (d + 1)) = 0 ↔ (d + 1) ∣ c := by
        rw [n_rem (by omega) (by omega) (by omega), show (0 : Int32) = nI 0 from rfl, n_eq (by have := Nat.mod_lt c (show 0 < d + 1 by omega); omega) (by decide)]
        exact ⟨Nat.dvd_of_mod_eq_zero, Nat.mod_eq_zero_of_dvd⟩
      have k2 : ow_irem (nI n) (nI (d + 1)) = 0 ↔ (d + 1) ∣ n := by
        rw [n_rem (by omega) (by omega) (by omega), show (0 : Int32) = nI 0 from rfl, n_eq (by have := Nat.mod_lt n (show 0 < d + 1 by omega); omega) (by decide)]
        exact ⟨Nat.dvd_of_mod_eq_zero, Nat.mod_eq_zero_of_dvd⟩
      rw [if_neg (show ¬ nI (d + 1) ≤ (1 : Int32) by rw [show (1 : Int32) = nI 1 from rfl, n_le (by omega) (by decide)]; omega), e_ck _ e0]
      by_cases d1 : (d + 1) ∣ c
      · rw [if_pos (k1.mpr d1), e_ck _ e0]
        by_cases d2 : (d + 1) ∣ n
        · rw [if_pos (k2.mpr d2)]
          have := Nat.le_of_dvd hg (Nat.dvd_gcd d1 d2)
          rw [show Nat.gcd c n = d + 1 by omega]
        · rw [if_neg (fun z => d2 (k2.mp z))]; exact go (fun z => d2 z.2)
      · rw [if_neg (fun z => d1 (k1.mp z))]; exact go (fun z => d1 z.1)
theorem s_gcd_m (fu : Nat) {a b p : Nat} (ha : a ≤ 30) (hb : b ≤ 30) (h0 : 0 < a) (σ : ow_S) : ∀ (fn u v : Nat), u ≤ 30 → v ≤ 30 → 0 < Nat.gcd u v → v < fn → L_X9_lowest_16 fu fn (lN a) (lN b) (nI p) (lN u) (lN v) σ = some (lN ((if nI p = 0 then a else b) / Nat.gcd u v), σ) := by
  intro fn
  induction fn with
  | zero => intro u v _ _ _ h; omega
  | succ fn ih =>
    intro u v hu hv hg hf
    rw [L_X9_lowest_16]
    have k : lg_cmp (lN v) (0 : Int64) = 0 ↔ v = 0 := by
      rw [lg_cmp_eq, show (0 : Int64) = lN 0 from rfl, lN_eq (by omega) (by decide)]
    by_cases c : v = 0
    · subst c
      rw [Nat.gcd_zero_right] at hg ⊢
      rw [if_pos (k.mpr rfl)]
      by_cases d : nI p = 0
      · rw [if_pos d, if_pos d, e_ck _ (s_lN0 hg (by omega)), pk_lDiv (by omega) hg (by omega)]
      · rw [if_neg d, if_neg d, e_ck _ (s_lN0 hg (by omega)), pk_lDiv (by omega) hg (by omega)]
    · have hm := Nat.mod_lt u (show 0 < v by omega)
      have eg : Nat.gcd v (u % v) = Nat.gcd u v := by
        rw [Nat.gcd_comm u v, Nat.gcd_rec v u, Nat.gcd_comm]
      rw [if_neg (fun z => c (k.mp z)), e_ck _ (s_lN0 (by omega) (by omega)), e_let, s_lot2 (by omega) (by omega) (by omega), ih v (u % v) hv (by omega) (by rw [eg]; exact hg) (by omega), eg]
theorem s_odds_end (fu : Nat) (hfu : 1000 ≤ fu) {c n p : Nat} (hc : c ≤ 30) (hn : n ≤ 30) (h0 : 0 < n) (hp : p ≤ 1) (X M : ow_S) : ∃ r g, f_X8_commonDivisor fu (nI c) (nI n) X = some (g, X) ∧ ¬ g = 0 ∧ ((if nI p = 0 then nI c / g else nI n / g).toInt64 = r) ∧ f_X9_lowest fu (lN c) (lN n) (nI p) M = some (r, M) := by
  have hg : 0 < Nat.gcd c n := Nat.gcd_pos_of_pos_right c h0
  have hg2 := Nat.le_of_dvd h0 (Nat.gcd_dvd_right c n)
  have e8 : f_X8_commonDivisor fu (nI c) (nI n) X = some (nI (Nat.gcd c n), X) := by
    rw [f_X8_commonDivisor]
    exact s_gcd_x fu hc hn h0 X n fu hg2 hn (by omega)
  have ne : ¬ nI (Nat.gcd c n) = (0 : Int32) := by rw [show (0 : Int32) = nI 0 from rfl, n_eq (by omega) (by decide)]; omega
  have ev : (if nI p = 0 then nI c / nI (Nat.gcd c n) else nI n / nI (Nat.gcd c n)).toInt64 = lN ((if nI p = 0 then c else n) / Nat.gcd c n) := by
    have b1 := Nat.div_le_self c (Nat.gcd c n)
    have b2 := Nat.div_le_self n (Nat.gcd c n)
    by_cases d : nI p = 0
    · rw [if_pos d, if_pos d, n_div (by omega) (by omega) hg, nI_l (by omega)]
    · rw [if_neg d, if_neg d, n_div (by omega) (by omega) hg, nI_l (by omega)]
  refine ⟨_, _, e8, ne, ev, ?_⟩
  rw [f_X9_lowest]
  have k : lg_cmp (lN c) (0 : Int64) = 0 ↔ c = 0 := by
    rw [lg_cmp_eq, show (0 : Int64) = lN 0 from rfl, lN_eq (by omega) (by decide)]
  by_cases z : c = 0
  · subst z
    rw [if_pos (k.mpr rfl), Nat.gcd_zero_left, nI_l (by omega)]
    rcases (show p = 0 ∨ p = 1 by omega) with rfl | rfl
    · rw [if_pos (show nI 0 = (0 : Int32) from rfl), Nat.zero_div]
    · rw [if_neg (show ¬ nI 1 = (0 : Int32) by decide), Nat.div_self h0]
  · rw [if_neg (fun y => z (k.mp y))]
    exact s_gcd_m fu hc hn (by omega) M fu c n hc hn hg (by omega)
theorem s_odds_loop (fu : Nat) (hfu : 1000 ≤ fu) {hc j n p sd : Nat} (h5 : hc ≤ 5) (hj : j < hc) (hn : n ≤ 30) (h0 : 0 < n) (hp : p ≤ 1) (hsd : sd ≤ 99999) : ∀ (q i fn c : Nat) (X M : ow_S), Rl X M → X.1 0 12 = nI hc → c ≤ i → i + q = n → q < fn → ∃ r X' M', L_X8_odds_47 fu fn (nI sd) (nI n) (nI j) (nI p) (nI c) (nI i) X = some (r, X') ∧ L_X9_odds_49 fu fn (nI sd) (nI n) (nI j) (nI p) (lN c) (nI i) M = some (r, M') ∧ Rl X' M' := by
  intro q
  induction q with
  | zero =>
    intro i fn c X M h q2 hci hi hf
    obtain ⟨fn, rfl⟩ : ∃ q, fn = q + 1 := ⟨fn - 1, by omega⟩
    have hle : nI n ≤ nI i := by rw [n_le (by omega) (by omega)]; omega
    obtain ⟨r, g, g1, g2, g3, g4⟩ := s_odds_end fu hfu (c := c) (n := n) (p := p) (by omega) hn h0 hp X M
    rw [L_X8_odds_47, L_X9_odds_49, if_pos hle, if_pos hle, g1, e_cl, nI_l (n := n) (by omega), g4, e_cl]
    by_cases d : nI p = 0
    · rw [if_pos d] at g3
      rw [if_pos d, e_ck _ g2, g3]; exact ⟨_, _, _, rfl, rfl, h⟩
    · rw [if_neg d] at g3
      rw [if_neg d, e_ck _ g2, g3]; exact ⟨_, _, _, rfl, rfl, h⟩
  | succ q ih =>
    intro i fn c X M h q2 hci hi hf
    obtain ⟨fn, rfl⟩ : ∃ q, fn = q + 1 := ⟨fn - 1, by omega⟩
    have hle : ¬ nI n ≤ nI i := by rw [n_le (by omega) (by omega)]; omega
    obtain ⟨v, l, X1, M1, x1, m1, x2, m2, hR, e0⟩ := s_draw fu hfu h (n := sd + i) (by omega)
    obtain ⟨v2, X2, M2, u1, u2, u3, u4, u5⟩ := s_says2 fu hfu hR (by rw [e0]; exact q2) h5 hj (Or.inr rfl) x2 m2
    have go := fun (d : Nat) (hd : d ≤ i + 1) => ih (i + 1) fn d X2 M2 u3 (by rw [u4 0 (by decide) (by decide), e0]; exact q2) hd (by omega) (by omega)
    rw [L_X8_odds_47, L_X9_odds_49, if_neg hle, if_neg hle, n_add, x1, e_cl, e_ckn _ (by omega) (by omega), n_cl (a := j) (by omega), e_let, u1, e_cl, m1, e_cl, u2, e_cl]
    simp only [L_X8_odds_85, L_X9_odds_82, e_let, show nI i + (1 : Int32) = nI (i + 1) from n_add i 1, show nI c + (1 : Int32) = nI (c + 1) from n_add c 1, lN_1, show lN c + (0 : Int64) = lN c from Int64.add_zero _]
    by_cases z : v2 = v
    · simp only [if_pos z]; exact go (c + 1) (by omega)
    · simp only [if_neg z]; exact go c (by omega)
theorem o_odds (fu : Nat) (hfu : 1000 ≤ fu) (a1 a2 a3 a4 : Int32) : sameL (f_X8_odds fu a1 a2 a3 a4) (f_X9_odds fu a1 a2 a3 a4) := by
  intro X M h
  have stop : ∀ v : Int64, ∃ r X' M', some (v, X) = some (r, X') ∧ some (v, M) = some (r, M') ∧ Rl X' M' := fun v => ⟨_, _, _, rfl, rfl, h⟩
  rw [f_X8_odds, f_X9_odds, s_isSeed, s_inb, e_cl, e_cl]
  rcases inb_cases (v := a1) (a := 0) (b := 99999) (by decide) (by decide) with i1 | ⟨i1, sd, n1, n2, rfl⟩
  · rw [show inb a1 0 99999 = 0 from i1, if_pos rfl, if_pos rfl]; exact stop _
  rw [show inb (nI sd) 0 99999 = 1 from i1, if_neg (show ¬ (1 : Int32) = 0 by decide), if_neg (show ¬ (1 : Int32) = 0 by decide), s_inb, e_cl]
  rcases inb_cases (v := a2) (a := 1) (b := 30) (by decide) (by decide) with i2 | ⟨i2, n, n3, n4, rfl⟩
  · rw [show inb a2 1 30 = 0 from i2, if_pos rfl]
    unfold inb at i2
    by_cases c1 : a2 < 1
    · rw [if_pos c1]; exact stop _
    · rw [if_neg c1]
      rw [if_neg (show ¬ a2 < nI 1 from c1)] at i2
      by_cases c2 : (30 : Int32) < a2
      · rw [if_pos c2]; exact stop _
      · rw [if_neg (show ¬ nI 30 < a2 from c2)] at i2; exact absurd i2 (by decide)
  have k1 : ¬ nI n < (1 : Int32) := by rw [show (1 : Int32) = nI 1 from rfl, n_lt (by omega) (by decide)]; omega
  have k2 : ¬ (30 : Int32) < nI n := by rw [show (30 : Int32) = nI 30 from rfl, n_lt (by decide) (by omega)]; omega
  obtain ⟨hc, q1, q2, q3, q4, bb, e1, e2, hb⟩ := s_isHead fu h.2.1 a3
  rw [show inb (nI n) 1 30 = 1 from i2, if_neg k1, if_neg k2, if_neg (show ¬ (1 : Int32) = 0 by decide), e1, e2, e_cl, e_cl]
  cases bb with
  | false => exact stop _
  | true =>
    obtain ⟨j, hj, rfl⟩ := hb rfl
    rw [if_pos rfl, if_neg (show ¬ (1 : Int32) = 0 by decide), if_neg (show ¬ (1 : Int32) = 0 by decide), s_inb, e_cl]
    rcases c_le (w := 1) (by decide) a4 with ⟨c1, c2⟩ | ⟨w, hw, rfl, c1, c2⟩
    · rw [show inb a4 0 1 = 0 from c1, if_pos rfl]
      rw [show (1 : Int32) = nI 1 from rfl, c2]; exact stop _
    · have c2' : ∀ {α : Type} (s K : α), (if nI w < 0 then s else if nI w ≤ (1 : Int32) then K else s) = K := c2
      rw [show inb (nI w) 0 1 = 1 from c1, if_neg (show ¬ (1 : Int32) = 0 by decide), c2', e_let]
      exact s_odds_loop fu hfu q1 hj n4 (by omega) hw n2 n 0 fu 0 X M h q2 (by omega) (by omega) (by omega)
