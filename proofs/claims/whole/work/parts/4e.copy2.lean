theorem o_copy (fu : Nat) (hfu : 1000 ≤ fu) (a1 a2 a3 a4 a5 : Int32) : sameI (f_X8_copy fu a1 a2 a3 a4 a5) (f_X9_copy fu a1 a2 a3 a4 a5) := by
  intro X M h
  have stop : ∀ v : Int32, ∃ r X' M', some (v, X) = some (r, X') ∧ some (v, M) = some (r, M') ∧ Rl X' M' := fun v => ⟨_, _, _, rfl, rfl, h⟩
  rw [f_X8_copy, f_X9_copy, s_isSheet, s_inb, e_cl, e_cl]
  rcases inb_cases (v := a1) (a := 0) (b := 3) (by decide) (by decide) with i1 | ⟨i1, s, s1, s2, rfl⟩
  · rw [show inb a1 0 3 = 0 from i1, if_pos rfl, if_pos rfl]; exact stop _
  rw [show inb (nI s) 0 3 = 1 from i1, if_neg (show ¬ (1 : Int32) = 0 by decide), if_neg (show ¬ (1 : Int32) = 0 by decide), s_isSheet, s_inb, e_cl, e_cl]
  rcases inb_cases (v := a3) (a := 0) (b := 3) (by decide) (by decide) with i3 | ⟨i3, t, t1, t2, rfl⟩
  · rw [show inb a3 0 3 = 0 from i3, if_pos rfl, if_pos rfl]; exact stop _
  rw [show inb (nI t) 0 3 = 1 from i3, if_neg (show ¬ (1 : Int32) = 0 by decide), if_neg (show ¬ (1 : Int32) = 0 by decide)]
  obtain ⟨so, sz, w1, w2, w3, w4, w5, w6, w7⟩ := h.2.2.2.2.2.1 s (by omega)
  obtain ⟨so', sz', v1, v2, v3, v4, v5, v6, v7⟩ := h.2.2.2.2.2.1 t (by omega)
  obtain ⟨k1, -, -⟩ := n_sort w1
  obtain ⟨k2, -, -⟩ := n_sort v1
  have cl : (nI s).toNatClampNeg = s := n_cl (by omega)
  have cl' : (nI t).toNatClampNeg = t := n_cl (by omega)
  have ck : ∀ K : Option (Int32 × ow_S), ow_ck (ow_bd (nI s) 4) K = K := fun K => e_ckn K (by omega) (by omega)
  have ck' : ∀ K : Option (Int32 × ow_S), ow_ck (ow_bd (nI t) 4) K = K := fun K => e_ckn K (by omega) (by omega)
  simp only [cl, cl', ck, ck', e_let, f_X5_isMissing, w3, w4, w6, v3, v4, v6, k1, k2]
  by_cases c0 : so = 0
  · rw [if_pos c0, if_pos c0, e_cl, if_neg (show ¬ (1 : Int32) = 0 by decide)]; exact stop _
  rw [if_neg c0, if_neg c0, e_cl, if_pos rfl]
  simp only [v3, k2]
  by_cases c1 : so' = 0
  · rw [if_pos c1, if_pos c1, e_cl, if_neg (show ¬ (1 : Int32) = 0 by decide)]; exact stop _
  rw [if_neg c1, if_neg c1, e_cl, if_pos rfl]
  simp only [w3, v3]
  by_cases c2 : ¬ (nI so - 1 = (nI so' - 1 : Int32))
  · rw [if_neg c2, if_neg c2]; exact stop _
  have c2 := Decidable.not_not.mp c2
  rw [if_pos c2, if_pos c2]
  have hr : ∀ (h0 : Nat) (a b : Int32) (z : Nat), X.1 h0 2 = nI z → f_X5_hasRun fu h0 a b X = some (if a < 0 then 0 else if b < 0 then 0 else if nI z < a then 0 else if nI z - a < b then 0 else 1, X) := by
    intro h0 a b z hz
    rw [f_X5_hasRun, hz]
    (repeat' split) <;> rfl
  rw [hr _ a2 a5 sz w5, e_cl]
  by_cases d5 : a5 < 0
  · have e1 : (if a2 < 0 then (0 : Int32) else if a5 < 0 then 0 else if nI sz < a2 then 0 else if nI sz - a2 < a5 then 0 else 1) = 0 := by
      by_cases d2 : a2 < 0
      · rw [if_pos d2]
      · rw [if_neg d2, if_pos d5]
    rw [e1, if_pos rfl, if_pos d5]; exact stop _
  rw [if_neg d5, if_neg d5]
  by_cases d2 : a2 < 0
  · rw [if_pos d2, if_pos d2, if_pos rfl]; exact stop _
  rw [if_neg d2, if_neg d2, hr _ a4 a5 sz' v5, e_cl, if_neg d5]
  obtain ⟨n, hn, rfl⟩ := n_of d5
  obtain ⟨p, hp, rfl⟩ := n_of d2
  have x1 : nI sz < nI p ↔ sz < p := n_lt (by omega) hp
  simp only [x1]
  by_cases y1 : sz < p
  · rw [if_pos y1, if_pos rfl]
    by_cases d4 : a4 < 0
    · rw [if_pos d4]; exact stop _
    · rw [if_neg d4, if_pos y1]; exact stop _
  rw [if_neg y1]
  have x2 : nI sz - nI p < nI n ↔ sz - p < n := by rw [n_sub (by omega), n_lt (by omega) hn]
  simp only [x2]
  by_cases d4 : a4 < 0
  · rw [if_pos d4, if_pos d4, if_pos rfl]
    by_cases y2 : sz - p < n
    · rw [if_pos y2, if_pos rfl]; exact stop _
    · rw [if_neg y2, if_neg (show ¬ (1 : Int32) = 0 by decide)]; exact stop _
  rw [if_neg d4, if_neg d4, if_neg y1]
  obtain ⟨q, hq, rfl⟩ := n_of d4
  have x3 : nI sz' < nI q ↔ sz' < q := n_lt (by omega) hq
  simp only [x3]
  by_cases y2 : sz - p < n
  · rw [if_pos y2, if_pos rfl]
    by_cases y3 : sz' < q
    · rw [if_pos y3]; exact stop _
    · rw [if_neg y3, if_pos y2]; exact stop _
  rw [if_neg y2, if_neg (show ¬ (1 : Int32) = 0 by decide), if_neg y2]
  by_cases y3 : sz' < q
  · rw [if_pos y3, if_pos y3, if_pos rfl]; exact stop _
  rw [if_neg y3, if_neg y3]
  have x4 : nI sz' - nI q < nI n ↔ sz' - q < n := by rw [n_sub (by omega), n_lt (by omega) hn]
  have x5 : nI n ≤ nI sz' - nI q ↔ n ≤ sz' - q := by rw [n_sub (by omega), n_le hn (by omega)]
  simp only [x4, x5]
  by_cases y4 : sz' - q < n
  · rw [if_pos y4, if_pos rfl, if_neg (show ¬ n ≤ sz' - q by omega)]; exact stop _
  rw [if_neg y4, if_neg (show ¬ (1 : Int32) = 0 by decide), if_pos (show n ≤ sz' - q by omega)]
  obtain ⟨M', m1, m2, m3⟩ := s_m_copy fu (x6 := 40 * s + p) (x7 := 40 * t + q) (n := n) (by omega) (by omega) (by omega) (M.1 68) n 0 fu M (by omega) (by omega) (fun z => by
    (repeat' split) <;> first | rfl | omega)
  have hcb : ow_cb (nI p) (nI q) (nI n) 40 40 := by
    refine ⟨d2, d4, d5, ?_, ?_⟩
    · rw [n_cl hp, n_cl hn]; omega
    · rw [n_cl hq, n_cl hn]; omega
  rw [e_ck _ hcb, n_cl hp, n_cl hq, n_cl hn, show (40 : Int32) * nI s = nI (40 * s) from n_mul 40 s, show (40 : Int32) * nI t = nI (40 * t) from n_mul 40 t, n_add, n_add, show (0 : Int32) = nI 0 from rfl, m1]
  refine ⟨_, _, M', rfl, rfl, h.sheet (fun c hc => gA_k _ _ (by omega)) (fun c a b d => m2 c d) (fun u hu => ?_)⟩
  obtain ⟨so2, sz2, u1, u2, u3, u4, u5, u6, u7⟩ := h.2.2.2.2.2.1 u hu
  refine ⟨so2, sz2, u1, u2, ?_, ?_, ?_, ?_, fun j hj => ?_⟩
  · rw [gA_k _ _ (show 48 + 2 * u ≠ 48 + 2 * t + 1 by omega)]; exact u3
  · rw [m2 66 (by decide)]; exact u4
  · rw [gA_k _ _ (show 48 + 2 * u ≠ 48 + 2 * t + 1 by omega)]; exact u5
  · rw [m2 67 (by decide)]; exact u6
  · rw [m3]
    by_cases e : u = t
    · subst e
      rw [gA_row, va_cpy]
      by_cases e2 : q ≤ j ∧ j < q + n
      · rw [if_pos e2, if_pos (by omega), w7 _ (by omega), show 40 * u + j - (40 * u + q) + (40 * s + p) = 40 * s + (p + (j - q)) by omega]
      · rw [if_neg e2, if_neg (by omega)]; exact u7 j hj
    · rw [gA_k _ _ (show 48 + 2 * u + 1 ≠ 48 + 2 * t + 1 by omega), if_neg (by omega)]; exact u7 j hj
