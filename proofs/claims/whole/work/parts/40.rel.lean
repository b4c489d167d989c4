/-! the two memories agree -/
def rlA (X M : Nat → Nat → Int32) : Prop := ∃ (P : Nat) (l : List Int32), 1 ≤ P ∧ P ≤ 52 ∧ X 0 11 = nI P ∧ M 56 0 = nI P ∧ x_row X 1 l ∧ M 56 2 = nI l.length ∧ (∀ p, p < l.length → M 57 p = l.getD p 0) ∧ ∀ v, v ∈ l → ∃ a, 1 ≤ a ∧ a ≤ P ∧ v = nI a
def rlh (X M : Nat → Nat → Int32) (h : Nat) : Prop := ∃ k mo b f s : Nat, x_head X (25 + h) k mo (nI b) (nI f) (nI s) ∧ m_head M h k mo (nI b) (nI f) (nI s) ∧ 1 ≤ b ∧ b ≤ 16 ∧ f < 65536 ∧ s < 65536
def rlH (X M : Nat → Nat → Int32) : Prop := ∃ hc, hc ≤ 5 ∧ X 0 12 = nI hc ∧ M 56 3 = nI hc ∧ ∀ h, h < hc → rlh X M h
def rlT (X M : Nat → Nat → Int32) : Prop := ∃ tc law, tc ≤ 6 ∧ law < tc ∧ X 0 13 = nI tc ∧ M 56 11 = nI tc ∧ X 0 14 = nI law ∧ M 56 12 = nI law ∧ ∀ t, t < tc → ∃ T, x_text X (30 + 3 * t) T ∧ m_text M t T
def rlB (X M : Nat → Nat → Int32) : Prop := ∃ (B : Nat → Nat) (n : Nat), n ≤ 160 ∧ X 7 1 = nI n ∧ M 56 8 = nI n ∧ (∀ i, B i < 256) ∧ ∀ i, i < n → X 8 i = nI (B i) ∧ M 61 i = nI (B i)
def rlW (M : Nat → Nat → Int32) : Prop := ∀ i z, i < 12 → z < 8 → M 70 (8 * i + z) = nI (mpad i z)
def rlS (X M : Nat → Nat → Int32) : Prop := ∀ s, s < 4 → ∃ so sz : Nat, so < 4 ∧ sz ≤ 40 ∧ X (48 + 2 * s) 1 = nI so - 1 ∧ M 66 s = nI so - 1 ∧ X (48 + 2 * s) 2 = nI sz ∧ M 67 s = nI sz ∧ ∀ j, j < 40 → X (48 + 2 * s + 1) j = M 68 (40 * s + j)
def rli (X M : Nat → Nat → Int32) (h : Nat) : Prop := ∃ b f s : Nat, X (20 + h) 0 = X (25 + h) 0 ∧ X (20 + h) 1 = X (25 + h) 1 ∧ X (20 + h) 2 = nI b ∧ X (20 + h) 3 = nI f ∧ X (20 + h) 4 = nI s ∧ M 65 (3 * h) = nI b ∧ M 65 (3 * h + 1) = nI f ∧ M 65 (3 * h + 2) = nI s ∧ 1 ≤ b ∧ b ≤ 16 ∧ f < 65536 ∧ s < 65536
def rlI (X M : Nat → Nat → Int32) : Prop := ∃ th : Nat, th < 2 ∧ X 16 2 = nI th ∧ M 56 13 = nI th ∧ (th = 1 → ∃ (P : Nat) (l : List Int32) (ih il hc tc : Nat), 1 ≤ P ∧ P ≤ 52 ∧ X 16 3 = nI P ∧ M 56 14 = nI P ∧ x_row X 17 l ∧ M 56 15 = nI l.length ∧ (∀ p, p < l.length → M 64 p = l.getD p 0) ∧ (∀ v, v ∈ l → ∃ a, 1 ≤ a ∧ a ≤ P ∧ v = nI a) ∧ X 16 4 = nI ih ∧ M 56 16 = nI ih ∧ X 16 5 = nI il ∧ M 56 17 = nI il ∧ X 0 12 = nI hc ∧ hc ≤ 5 ∧ ih ≤ hc ∧ X 0 13 = nI tc ∧ tc ≤ 6 ∧ il < tc ∧ ∀ h, h < ih → rli X M h)
def Rl (X M : ow_S) : Prop := rlA X.1 M.1 ∧ rlH X.1 M.1 ∧ rlT X.1 M.1 ∧ rlB X.1 M.1 ∧ rlW M.1 ∧ rlS X.1 M.1 ∧ rlI X.1 M.1
section
variable {X M X' M' : Nat → Nat → Int32}
theorem rlA.fr (h : rlA X M) (a : X' 0 11 = X 0 11) (b : X' 1 = X 1) (c : X' 2 = X 2) (d : M' 56 0 = M 56 0) (e : M' 56 2 = M 56 2) (f : M' 57 = M 57) : rlA X' M' := by
  unfold rlA x_row at h ⊢
  rw [a, b, show X' (1 + 1) = X (1 + 1) from c, d, e, f]; exact h
theorem rlH.fr (h : rlH X M) (a : X' 0 12 = X 0 12) (b : ∀ c, 25 ≤ c → c < 30 → X' c = X c) (d : M' 56 3 = M 56 3) (e : M' 58 = M 58) (f : M' 59 = M 59) (g : M' 60 = M 60) : rlH X' M' := by
  obtain ⟨hc, h5, h1, h2, hh⟩ := h
  refine ⟨hc, h5, a.trans h1, d.trans h2, fun h hl => ?_⟩
  obtain ⟨k, mo, b', f', s', p, q, r⟩ := hh h hl
  refine ⟨k, mo, b', f', s', ?_, ?_, r⟩
  · unfold x_head at p ⊢; rw [b (25 + h) (by omega) (by omega)]; exact p
  · unfold m_head at q ⊢; rw [e, f, g]; exact q
theorem x_text.fr {t : Nat} {T : Nat → List Nat} (h : x_text X t T) (a : X' t = X t) (b : X' (t + 1) = X (t + 1)) (c : X' (t + 2) = X (t + 2)) : x_text X' t T := by
  unfold x_text at h ⊢; rw [a, b, c]; exact h
theorem rlT.fr (h : rlT X M) (a : X' 0 13 = X 0 13) (a' : X' 0 14 = X 0 14) (b : ∀ c, 30 ≤ c → c < 48 → X' c = X c) (d : M' 56 11 = M 56 11) (d' : M' 56 12 = M 56 12) (e : M' 62 = M 62) (f : M' 63 = M 63) : rlT X' M' := by
  obtain ⟨tc, law, h1, h2, h3, h4, h5, h6, hh⟩ := h
  refine ⟨tc, law, h1, h2, a.trans h3, d.trans h4, a'.trans h5, d'.trans h6, fun t ht => ?_⟩
  obtain ⟨T, p, q⟩ := hh t ht
  refine ⟨T, p.fr (b _ (by omega) (by omega)) (b _ (by omega) (by omega)) (b _ (by omega) (by omega)), ?_⟩
  unfold m_text at q ⊢; rw [e, f]; exact q
theorem rlB.fr (h : rlB X M) (a : X' 7 1 = X 7 1) (b : X' 8 = X 8) (c : M' 56 8 = M 56 8) (d : M' 61 = M 61) : rlB X' M' := by
  unfold rlB at h ⊢; rw [a, b, c, d]; exact h
theorem rlW.fr (h : rlW M) (a : M' 70 = M 70) : rlW M' := by unfold rlW at h ⊢; rw [a]; exact h
theorem rlS.fr (h : rlS X M) (b : ∀ c, 48 ≤ c → c < 56 → X' c = X c) (d : M' 66 = M 66) (e : M' 67 = M 67) (f : M' 68 = M 68) : rlS X' M' := by
  intro s hs
  obtain ⟨so, sz, h1, h2, h3, h4, h5, h6, h7⟩ := h s hs
  refine ⟨so, sz, h1, h2, ?_, ?_, ?_, ?_, fun j hj => ?_⟩
  · rw [b _ (by omega) (by omega)]; exact h3
  · rw [d]; exact h4
  · rw [b _ (by omega) (by omega)]; exact h5
  · rw [e]; exact h6
  · rw [b _ (by omega) (by omega), f]; exact h7 j hj
theorem rlI.fr (h : rlI X M) (a : X' 0 12 = X 0 12) (a' : X' 0 13 = X 0 13) (b : ∀ c, 16 ≤ c → c < 25 → X' c = X c) (b' : ∀ c, 25 ≤ c → c < 30 → X' c 0 = X c 0 ∧ X' c 1 = X c 1) (c : ∀ z, 13 ≤ z → z ≤ 17 → M' 56 z = M 56 z) (d : M' 64 = M 64) (e : M' 65 = M 65) : rlI X' M' := by
  obtain ⟨th, h1, h2, h3, h⟩ := h
  refine ⟨th, h1, by rw [b 16 (by omega) (by omega)]; exact h2, by rw [c 13 (by omega) (by omega)]; exact h3, fun ht => ?_⟩
  obtain ⟨P, l, ih, il, hc, tc, p1, p2, p3, p4, p5, p6, p7, p8, p9, p10, p11, p12, p13, p14, p15, p16, p17, p18, p19⟩ := h ht
  refine ⟨P, l, ih, il, hc, tc, p1, p2, by rw [b 16 (by omega) (by omega)]; exact p3, by rw [c 14 (by omega) (by omega)]; exact p4, ?_, by rw [c 15 (by omega) (by omega)]; exact p6, by rw [d]; exact p7, p8, by rw [b 16 (by omega) (by omega)]; exact p9, by rw [c 16 (by omega) (by omega)]; exact p10, by rw [b 16 (by omega) (by omega)]; exact p11, by rw [c 17 (by omega) (by omega)]; exact p12, by rw [a]; exact p13, p14, p15, by rw [a']; exact p16, p17, p18, fun h hh => ?_⟩
  · unfold x_row at p5 ⊢; rw [b 17 (by omega) (by omega), b (17 + 1) (by omega) (by omega)]; exact p5
  · obtain ⟨b1, f1, s1, q⟩ := p19 h hh
    refine ⟨b1, f1, s1, ?_⟩
    rw [b (20 + h) (by omega) (by omega), (b' (25 + h) (by omega) (by omega)).1, (b' (25 + h) (by omega) (by omega)).2, e]; exact q
end
/-- what is no one's: the class's -/
def xsc (X X' : ow_S) : Prop := (∀ c, (c < 3 ∨ c = 5 ∨ c = 8 ∨ c = 9 ∨ 15 ≤ c) → X'.1 c = X.1 c) ∧ X'.1 7 1 = X.1 7 1
/-- ... and the model's -/
def msc (M M' : ow_S) : Prop := (∀ c, (c < 56 ∨ (57 ≤ c ∧ c < 71)) → M'.1 c = M.1 c) ∧ ∀ z, (z < 24 ∨ z = 28 ∨ z = 29 ∨ (33 ≤ z ∧ z ≤ 35) ∨ z = 39 ∨ 41 ≤ z) → M'.1 56 z = M.1 56 z
theorem xsc.rf (X : ow_S) : xsc X X := ⟨fun _ _ => rfl, rfl⟩
theorem msc.rf (M : ow_S) : msc M M := ⟨fun _ _ => rfl, fun _ _ => rfl⟩
theorem xsc.tr {a b c : ow_S} (p : xsc a b) (q : xsc b c) : xsc a c := ⟨fun k h => (q.1 k h).trans (p.1 k h), q.2.trans p.2⟩
theorem msc.tr {a b c : ow_S} (p : msc a b) (q : msc b c) : msc a c := ⟨fun k h => (q.1 k h).trans (p.1 k h), fun z h => (q.2 z h).trans (p.2 z h)⟩
theorem Rl.sc {X M X' M' : ow_S} (h : Rl X M) (a : xsc X X') (b : msc M M') : Rl X' M' := by
  obtain ⟨h1, h2, h3, h4, h5, h6, h7⟩ := h
  have e0 : X'.1 0 = X.1 0 := a.1 0 (by omega)
  refine ⟨h1.fr (by rw [e0]) (a.1 1 (by omega)) (a.1 2 (by omega)) (b.2 0 (by omega)) (b.2 2 (by omega)) (b.1 57 (by omega)), h2.fr (by rw [e0]) (fun c _ _ => a.1 c (by omega)) (b.2 3 (by omega)) (b.1 58 (by omega)) (b.1 59 (by omega)) (b.1 60 (by omega)), h3.fr (by rw [e0]) (by rw [e0]) (fun c _ _ => a.1 c (by omega)) (b.2 11 (by omega)) (b.2 12 (by omega)) (b.1 62 (by omega)) (b.1 63 (by omega)), h4.fr a.2 (a.1 8 (by omega)) (b.2 8 (by omega)) (b.1 61 (by omega)), h5.fr (b.1 70 (by omega)), h6.fr (fun c _ _ => a.1 c (by omega)) (b.1 66 (by omega)) (b.1 67 (by omega)) (b.1 68 (by omega)), h7.fr (by rw [e0]) (by rw [e0]) (fun c _ _ => a.1 c (by omega)) (fun c _ _ => by rw [a.1 c (by omega)]; exact ⟨rfl, rfl⟩) (fun z _ _ => b.2 z (by omega)) (b.1 64 (by omega)) (b.1 65 (by omega))⟩
/-- what changes the pack and the row alone -/
theorem Rl.row {X M X' M' : ow_S} (h : Rl X M) (a : ∀ c, c ≠ 0 → c ≠ 1 → c ≠ 2 → X'.1 c = X.1 c) (a' : ∀ z, z ≠ 11 → X'.1 0 z = X.1 0 z) (b : ∀ c, c < 71 → c ≠ 56 → c ≠ 57 → M'.1 c = M.1 c) (b' : ∀ z, z ≠ 0 → z ≠ 2 → z ≠ 36 → M'.1 56 z = M.1 56 z) (hr : rlA X'.1 M'.1) : Rl X' M' := by
  obtain ⟨h1, h2, h3, h4, h5, h6, h7⟩ := h
  exact ⟨hr, h2.fr (a' 12 (by omega)) (fun c _ _ => a c (by omega) (by omega) (by omega)) (b' 3 (by omega) (by omega) (by omega)) (b 58 (by omega) (by omega) (by omega)) (b 59 (by omega) (by omega) (by omega)) (b 60 (by omega) (by omega) (by omega)), h3.fr (a' 13 (by omega)) (a' 14 (by omega)) (fun c _ _ => a c (by omega) (by omega) (by omega)) (b' 11 (by omega) (by omega) (by omega)) (b' 12 (by omega) (by omega) (by omega)) (b 62 (by omega) (by omega) (by omega)) (b 63 (by omega) (by omega) (by omega)), h4.fr (by rw [a 7 (by omega) (by omega) (by omega)]) (a 8 (by omega) (by omega) (by omega)) (b' 8 (by omega) (by omega) (by omega)) (b 61 (by omega) (by omega) (by omega)), h5.fr (b 70 (by omega) (by omega) (by omega)), h6.fr (fun c _ _ => a c (by omega) (by omega) (by omega)) (b 66 (by omega) (by omega) (by omega)) (b 67 (by omega) (by omega) (by omega)) (b 68 (by omega) (by omega) (by omega)), h7.fr (a' 12 (by omega)) (a' 13 (by omega)) (fun c _ _ => a c (by omega) (by omega) (by omega)) (fun c _ _ => by rw [a c (by omega) (by omega) (by omega)]; exact ⟨rfl, rfl⟩) (fun z _ _ => b' z (by omega) (by omega) (by omega)) (b 64 (by omega) (by omega) (by omega)) (b 65 (by omega) (by omega) (by omega))⟩
/-- a call answers alike and leaves the memories alike -/
def sameI (f g : ow_S → Option (Int32 × ow_S)) : Prop := ∀ X M, Rl X M → ∃ r X' M', f X = some (r, X') ∧ g M = some (r, M') ∧ Rl X' M'
theorem o_count (fu : Nat) (a : Int32) : sameI (f_X8_count fu a) (f_X9_count fu a) := by
  intro X M h
  have h0 := h
  obtain ⟨⟨P, l, p1, p2, p3, p4, p5, p6, -⟩, ⟨hc, q1, q2, q3, -⟩, ⟨tc, law, r1, r2, r3, r4, r5, r6, -⟩, ⟨B, n, s1, s2, s3, -⟩, -⟩ := h
  simp only [f_X8_count, f_X9_count, p3, p4, p5.1, p6, q2, q3, r3, r4, r5, r6, s2, s3]
  by_cases c0 : a = 0
  · simp only [if_pos c0]; exact ⟨_, _, _, rfl, rfl, h0⟩
  by_cases c1 : a = 1
  · simp only [if_neg c0, if_pos c1]; exact ⟨_, _, _, rfl, rfl, h0⟩
  by_cases c2 : a = 2
  · simp only [if_neg c0, if_neg c1, if_pos c2]; exact ⟨_, _, _, rfl, rfl, h0⟩
  by_cases c3 : a = 3
  · simp only [if_neg c0, if_neg c1, if_neg c2, if_pos c3]; exact ⟨_, _, _, rfl, rfl, h0⟩
  by_cases c4 : a = 4
  · simp only [if_neg c0, if_neg c1, if_neg c2, if_neg c3, if_pos c4]; exact ⟨_, _, _, rfl, rfl, h0⟩
  by_cases c5 : a = 5
  · simp only [if_neg c0, if_neg c1, if_neg c2, if_neg c3, if_neg c4, if_pos c5]; exact ⟨_, _, _, rfl, rfl, h0⟩
  simp only [if_neg c0, if_neg c1, if_neg c2, if_neg c3, if_neg c4, if_neg c5]; exact ⟨_, _, _, rfl, rfl, h0⟩
theorem o_packSum (fu : Nat) : sameI (f_X8_packSum fu) (f_X9_packSum fu) := by
  intro X M h
  obtain ⟨P, l, p1, p2, p3, p4, p5⟩ := h.1
  refine ⟨_, _, _, rfl, ?_, h⟩
  simp only [f_X9_packSum, p3, p4]
/-- between two bounds, for any number -/
theorem s_in (fu : Nat) (v a b : Int32) (σ : ow_S) : f_X9_in fu v a b σ = some (if v < a then 0 else if b < v then 0 else 1, σ) := by
  rw [f_X9_in]
  by_cases h1 : v < a
  · rw [if_pos h1, if_pos h1]
  · rw [if_neg h1, if_neg h1]
    by_cases h2 : b < v
    · rw [if_pos h2, if_pos h2]
    · rw [if_neg h2, if_neg h2]
theorem o_force (fu : Nat) (a : Int32) : sameI (f_X8_force fu a) (f_X9_force fu a) := by
  intro X M h
  have h0 := h
  obtain ⟨h1, h2, ⟨tc, law, r1, r2, r3, r4, r5, r6, r7⟩, h4, h5, h6, h7⟩ := h
  have e : nI tc - (1 : Int32) = nI (tc - 1) := n_sub (b := 1) (by omega)
  rw [f_X8_force, f_X9_force, s_in, e_cl, r3, r4, r5, r6, e]
  by_cases c0 : a < 0
  · rw [if_pos c0, if_pos c0, if_pos rfl]; exact ⟨_, _, _, rfl, rfl, h0⟩
  · rw [if_neg c0, if_neg c0]
    obtain ⟨j, hj, rfl⟩ := n_of c0
    have e1 := n_lt (a := j) (b := tc) (by omega) (by omega)
    have e2 := n_lt (a := tc - 1) (b := j) (by omega) (by omega)
    simp only [e1, e2]
    by_cases c1 : j < tc
    · rw [if_pos c1, if_neg (show ¬ tc - 1 < j by omega), if_neg (by decide), e_let, e_let, e_let, e_let]
      refine ⟨_, _, _, rfl, rfl, h1.fr ?_ ?_ ?_ ?_ ?_ ?_, h2.fr ?_ (fun c c1 c2 => ?_) ?_ ?_ ?_ ?_, ⟨tc, j, r1, c1, ?_, ?_, g_same _ _ _ _, g_same _ _ _ _, fun t ht => ?_⟩, h4.fr ?_ ?_ ?_ ?_, h5.fr ?_, h6.fr (fun c c1 c2 => ?_) ?_ ?_ ?_, h7.fr ?_ ?_ (fun c c1 c2 => ?_) (fun c c1 c2 => ?_) (fun z z1 z2 => ?_) ?_ ?_⟩
      case refine_15 =>
        obtain ⟨T, p, q⟩ := r7 t ht
        refine ⟨T, p.fr ?_ ?_ ?_, ?_⟩
        · rw [g_k _ _ (by omega)]
        · rw [g_k _ _ (by omega)]
        · rw [g_k _ _ (by omega)]
        · unfold m_text at q ⊢
          rw [g_k _ _ (show 62 ≠ 56 by decide), g_k _ _ (show 63 ≠ 56 by decide)]; exact q
      all_goals first
        | (refine ⟨?_, ?_⟩ <;> rw [g_k _ _ (by omega)]; done)
        | rw [g_k _ _ (by omega)]
        | (rw [g_j _ _ (by omega)]; done)
        | (rw [g_j _ _ (by omega)]; assumption)
    · rw [if_neg c1, if_pos (show tc - 1 < j by omega), if_pos rfl]; exact ⟨_, _, _, rfl, rfl, h0⟩
