/-! the ones of the bits of the cards told right; who -/
theorem b6_or : ∀ i, i < 53 → 1 ≤ i → ((1 : Int64) <<< ((nI i - (1 : Int32)).toInt64 &&& 63)).toBitVec = BitVec.twoPow 64 (i - 1) := by decide +kernel
theorem b6_sm : ∀ k, k < 52 → (((nI k).toInt64 &&& 63).toBitVec.smod 64).toNat = k := by decide +kernel
theorem b6_bit {x : Int64} {k : Nat} (hk : k < 52) : lg_cmp ((x >>> ((nI k).toInt64 &&& 63)) &&& (1 : Int64)) (1 : Int64) = 0 ↔ x.toBitVec.getLsbD k = true := by
  rw [lg_cmp_eq, ← Int64.toBitVec_inj, Int64.toBitVec_and, Int64.toBitVec_shiftRight]
  show (x.toBitVec.sshiftRight (((nI k).toInt64 &&& 63).toBitVec.smod 64).toNat) &&& 1#64 = 1#64 ↔ _
  rw [b6_sm k hk]
  have h0 : (x.toBitVec.sshiftRight k).getLsbD 0 = x.toBitVec.getLsbD k := by
    rw [BitVec.getLsbD_sshiftRight]
    simp [show k < 64 by omega]
  constructor
  · intro h
    have t := congrArg (fun y => y.getLsbD 0) h
    simp only [BitVec.getLsbD_and, h0] at t
    simpa using t
  · intro h
    apply BitVec.eq_of_getLsbD_eq
    intro i hi
    rw [BitVec.getLsbD_and]
    cases i with
    | zero => rw [h0, h]; decide
    | succ i =>
      have e : (1#64).getLsbD (i + 1) = false := by simp
      rw [e, Bool.and_false]
theorem h_rb_bit (sv : Nat → Int32) : ∀ (q i : Nat) (x : Int64), 1 ≤ i → i + q ≤ 53 → ∀ k, (h_rb sv q i x).toBitVec.getLsbD k = (x.toBitVec.getLsbD k || decide (i ≤ k + 1 ∧ k + 1 < i + q ∧ sv (k + 1) = nI (k + 1))) := by
  intro q
  induction q with
  | zero =>
    intro i x h1 h2 k
    rw [h_rb, decide_eq_false (by omega), Bool.or_false]
  | succ q ih =>
    intro i x h1 h2 k
    rw [h_rb, ih (i + 1) _ (by omega) (by omega) k]
    by_cases c : sv i = nI i
    · rw [if_pos c, Int64.toBitVec_or, BitVec.getLsbD_or, b6_or i (by omega) h1, BitVec.getLsbD_twoPow, Bool.or_assoc]
      congr 1
      by_cases e : k + 1 = i
      · subst e
        have e1 : (decide (k + 1 - 1 < 64) && decide (k + 1 - 1 = k)) = true := by simp; omega
        rw [e1, Bool.true_or, decide_eq_true ⟨by omega, by omega, c⟩]
      · have e1 : (decide (i - 1 < 64) && decide (i - 1 = k)) = false := by
          rw [Bool.and_eq_false_iff]; right; exact decide_eq_false (by omega)
        rw [e1, Bool.false_or]
        apply decide_eq_decide.mpr
        constructor
        · rintro ⟨a, b, d⟩; exact ⟨by omega, by omega, d⟩
        · rintro ⟨a, b, d⟩; exact ⟨by omega, by omega, d⟩
    · rw [if_neg c]
      congr 1
      apply decide_eq_decide.mpr
      constructor
      · rintro ⟨a, b, d⟩; exact ⟨by omega, by omega, d⟩
      · rintro ⟨a, b, d⟩
        refine ⟨?_, by omega, d⟩
        rcases Nat.lt_or_ge (k + 1) (i + 1) with z | z
        · have : k + 1 = i := by omega
          subst this; exact absurd d c
        · exact z
theorem s_X9_ones_loop (fu : Nat) (sv : Nat → Int32) {P : Nat} {x : Int64} (hx : ∀ k, k < 52 → (x.toBitVec.getLsbD k = true ↔ k < P ∧ sv (k + 1) = nI (k + 1))) (hP : P ≤ 52) (σ : ow_S) : ∀ (q k c fn : Nat), k + q = 52 → q < fn → L_X9_ones_4 fu fn x (nI c) (nI k) σ = some (nI (h_ct sv (P - k) (k + 1) c), σ) := by
  intro q
  induction q with
  | zero =>
    intro k c fn hk hf
    obtain ⟨fn, rfl⟩ : ∃ q, fn = q + 1 := ⟨fn - 1, by omega⟩
    rw [L_X9_ones_4, if_pos (show (52 : Int32) ≤ nI k by rw [show (52 : Int32) = nI 52 from rfl, n_le (by decide) (by omega)]; omega), show P - k = 0 by omega, h_ct]
  | succ q ih =>
    intro k c fn hk hf
    obtain ⟨fn, rfl⟩ : ∃ q, fn = q + 1 := ⟨fn - 1, by omega⟩
    rw [L_X9_ones_4, if_neg (show ¬ (52 : Int32) ≤ nI k by rw [show (52 : Int32) = nI 52 from rfl, n_le (by decide) (by omega)]; omega)]
    simp only [L_X9_ones_26, e_let, show nI k + (1 : Int32) = nI (k + 1) from n_add k 1, show nI c + (1 : Int32) = nI (c + 1) from n_add c 1, show nI c + (0 : Int32) = nI c from Int32.add_zero _]
    by_cases b : x.toBitVec.getLsbD k = true
    · obtain ⟨b1, b2⟩ := (hx k (by omega)).mp b
      rw [if_pos ((b6_bit (by omega)).mpr b), ih (k + 1) (c + 1) fn (by omega) (by omega), show P - k = (P - (k + 1)) + 1 by omega, h_ct, if_pos b2]
    · rw [if_neg (fun h => b ((b6_bit (by omega)).mp h)), ih (k + 1) c fn (by omega) (by omega)]
      by_cases d : k < P
      · rw [show P - k = (P - (k + 1)) + 1 by omega, h_ct, if_neg (fun h => b ((hx k (by omega)).mpr ⟨d, h⟩))]
      · rw [show P - k = 0 by omega, show P - (k + 1) = 0 by omega, h_ct, h_ct]
theorem s_X9_ones (fu : Nat) (hfu : 1000 ≤ fu) (sv : Nat → Int32) {P : Nat} (hP : P ≤ 52) (σ : ow_S) : f_X9_ones fu (h_rb sv P 1 0) σ = some (nI (h_ct sv P 1 0), σ) := by
  rw [f_X9_ones]
  refine s_X9_ones_loop fu sv (P := P) (fun k hk => ?_) hP σ 52 0 0 fu (by omega) (by omega)
  rw [h_rb_bit sv P 1 0 (by omega) (by omega) k, show (0 : Int64).toBitVec.getLsbD k = false from BitVec.getLsbD_zero, Bool.false_or, decide_eq_true_iff]
  constructor
  · rintro ⟨a, b, d⟩; exact ⟨by omega, d⟩
  · rintro ⟨a, d⟩; exact ⟨by omega, by omega, d⟩
theorem h_ct_le (sv : Nat → Int32) : ∀ (q i c : Nat), h_ct sv q i c ≤ c + q ∧ (h_ct sv q i c = c + q ↔ h_al sv q i = true) := by
  intro q
  induction q with
  | zero => intro i c; exact ⟨Nat.le_refl _, by rw [h_ct, h_al]; simp⟩
  | succ q ih =>
    intro i c
    rw [h_ct, h_al]
    by_cases e : sv i = nI i
    · rw [if_pos e, if_pos e]
      have := ih (i + 1) (c + 1)
      refine ⟨by omega, ?_⟩
      rw [← this.2]; omega
    · rw [if_neg e, if_neg e]
      have := (ih (i + 1) c).1
      refine ⟨by omega, ⟨fun h => by omega, fun h => absurd h (by decide)⟩⟩
/-- what a head that is there says under both memories -/
theorem Rl.hd {X M : ow_S} (h : Rl X M) {hc j : Nat} (q2 : X.1 0 12 = nI hc) (h5 : hc ≤ 5) (hj : j < hc) : ∃ (P law : Nat) (T : Nat → List Nat) (k mo b f s : Nat), 1 ≤ P ∧ P ≤ 52 ∧ X.1 0 11 = nI P ∧ M.1 56 0 = nI P ∧ law < 6 ∧ X.1 0 14 = nI law ∧ M.1 56 12 = nI law ∧ x_text X.1 (30 + 3 * law) T ∧ m_text M.1 law T ∧ x_head X.1 (25 + j) k mo (nI b) (nI f) (nI s) ∧ m_head M.1 j k mo (nI b) (nI f) (nI s) ∧ 1 ≤ b ∧ b ≤ 16 ∧ f < 65536 ∧ s < 65536 := by
  obtain ⟨hc', q1, q2', q3, q4⟩ := h.2.1
  have ehc : hc' = hc := by
    rw [q2] at q2'
    exact ((n_eq (by omega) (by omega)).mp q2').symm
  subst ehc
  obtain ⟨k, mo, bb, f, s, hx, hmh, w⟩ := q4 j hj
  obtain ⟨P, l0, p1, p2, p3, p4, -⟩ := h.1
  obtain ⟨tc, law, r1, r2, r3, r4, r5, r6, r7⟩ := h.2.2.1
  obtain ⟨T, t1, t2⟩ := r7 law r2
  exact ⟨P, law, T, k, mo, bb, f, s, p1, p2, p3, p4, by omega, r5, r6, t1, t2, hx, hmh, w⟩
theorem s_X8_ct (fu : Nat) (hfu : 1000 ≤ fu) {X : ow_S} {P law c k mo : Nat} {b f s : Int32} {T : Nat → List Nat} (hP : P ≤ 52) (hl : law < 6) (hc : 12 < c ∨ c = 6) (p3 : X.1 0 11 = nI P) (hR : X.1 0 14 = nI law) (hT : x_text X.1 (30 + 3 * law) T) (hH : x_head X.1 c k mo b f s) : ∃ X', f_X8_countRight fu c X = some (nI (h_ct (h_but T P k mo b f s 0) P 1 0), X') ∧ xsb X X' :=
  (s_X8_ct_loop fu hfu hP hl hc P 1 fu 0 X p3 hR hT hH (by omega) (by omega)).1
theorem s_X8_all (fu : Nat) (hfu : 1000 ≤ fu) {X : ow_S} {P law c k mo : Nat} {b f s : Int32} {T : Nat → List Nat} (hP : P ≤ 52) (hl : law < 6) (hc : 12 < c ∨ c = 6) (p3 : X.1 0 11 = nI P) (hR : X.1 0 14 = nI law) (hT : x_text X.1 (30 + 3 * law) T) (hH : x_head X.1 c k mo b f s) : ∃ X', f_X8_isRightOfAll fu c X = some (if h_al (h_but T P k mo b f s 0) P 1 = true then 1 else 0, X') ∧ xsb X X' :=
  (s_X8_ct_loop fu hfu hP hl hc P 1 fu 0 X p3 hR hT hH (by omega) (by omega)).2
theorem s_X9_ct (fu : Nat) (hfu : 1000 ≤ fu) {M : ow_S} {P law j k mo : Nat} {b f s : Int32} {T : Nat → List Nat} (hP : P ≤ 52) (hl : law < 6) (h5 : j < 5) (p4 : M.1 56 0 = nI P) (hR : M.1 56 12 = nI law) (hT : m_text M.1 law T) (hH : m_head M.1 j k mo b f s) : ∃ M' z, f_X9_rightOf fu (nI j) 0 M = some (z, M') ∧ f_X9_ones fu z M' = some (nI (h_ct (h_but T P k mo b f s 0) P 1 0), M') ∧ msb M M' := by
  obtain ⟨M1, m1, m2⟩ := s_X9_rightOf_loop fu hfu (way := 0) hP hl h5 P 1 fu 0 M p4 hR hT hH (by omega) (by omega)
  exact ⟨M1, _, m1, s_X9_ones fu hfu _ hP M1, m2⟩
theorem s_who_loop (fu : Nat) (hfu : 1000 ≤ fu) {hc : Nat} (h5 : hc ≤ 5) (x1 : Int32) : ∀ (q i fn : Nat) (x2 x3 : Int32) (X M : ow_S), Rl X M → X.1 0 12 = nI hc → M.1 56 3 = nI hc → i + q = hc → q < fn → ∃ r X' M', L_X8_who_19 fu fn x1 x2 x3 (nI i) X = some (r, X') ∧ L_X9_who_19 fu fn x1 x2 x3 (nI i) M = some (r, M') ∧ Rl X' M' := by
  intro q
  induction q with
  | zero =>
    intro i fn x2 x3 X M h q2 q3 hi hf
    obtain ⟨fn, rfl⟩ : ∃ q, fn = q + 1 := ⟨fn - 1, by omega⟩
    have hle : nI hc ≤ nI i := by rw [n_le (by omega) (by omega)]; omega
    rw [L_X8_who_19, L_X9_who_19, q2, q3, if_pos hle, if_pos hle]
    by_cases c : x1 = 0
    · rw [if_pos c, if_pos c]; exact ⟨_, _, _, rfl, rfl, h⟩
    · rw [if_neg c, if_neg c]; exact ⟨_, _, _, rfl, rfl, h⟩
  | succ q ih =>
    intro i fn x2 x3 X M h q2 q3 hi hf
    obtain ⟨fn, rfl⟩ : ∃ q, fn = q + 1 := ⟨fn - 1, by omega⟩
    have hle : ¬ nI hc ≤ nI i := by rw [n_le (by omega) (by omega)]; omega
    obtain ⟨P, law, T, k, mo, b, f, s, p1, p2, p3, p4, hl, r5, r6, t1, t2, hx, hm, -⟩ := h.hd q2 h5 (show i < hc by omega)
    obtain ⟨X1, x1', xw⟩ := s_X8_ct fu hfu (c := 25 + i) p2 hl (Or.inl (by omega)) p3 r5 t1 hx
    obtain ⟨M1, z, m1, m2, mw⟩ := s_X9_ct fu hfu p2 hl (show i < 5 by omega) p4 r6 t2 hm
    have hR : Rl X1 M1 := h.sc xw.sc mw.sc
    have go := fun y2 y3 : Int32 => ih (i + 1) fn y2 y3 X1 M1 hR (by rw [xw 0 (by decide) (by decide) (by decide) (by decide)]; exact q2) ((mw.2 3 (by decide) (by decide) (by decide)).trans q3) (by omega) (by omega)
    rw [L_X8_who_19, L_X9_who_19, q2, q3, if_neg hle, if_neg hle, e_ckn _ (by omega) (by omega), n_cl (a := i) (by omega), e_let, x1', e_cl, m1, e_cl, m2, e_cl]
    simp only [L_X8_who_53, L_X9_who_52, L_X9_who_65, e_let, show nI i + (1 : Int32) = nI (i + 1) from n_add i 1]
    by_cases c : nI (h_ct (h_but T P k mo (nI b) (nI f) (nI s) 0) P 1 0) ≤ x3
    · simp only [if_pos c]; exact go _ _
    · simp only [if_neg c]; exact go _ _
/-- a range from 0 on, as the class asks and as the model does -/
theorem c_le {w : Nat} (hw : w < 2 ^ 31) (a : Int32) : (inb a 0 (nI w) = 0 ∧ ∀ {α : Type} (s K : α), (if a < 0 then s else if a ≤ nI w then K else s) = s) ∨ ∃ n, n ≤ w ∧ a = nI n ∧ inb a 0 (nI w) = 1 ∧ ∀ {α : Type} (s K : α), (if a < 0 then s else if a ≤ nI w then K else s) = K := by
  unfold inb
  by_cases d0 : a < 0
  · left
    exact ⟨by rw [if_pos d0], fun s K => by rw [if_pos d0]⟩
  · obtain ⟨n, hn, rfl⟩ := n_of d0
    by_cases d1 : n ≤ w
    · right
      refine ⟨n, d1, rfl, ?_, fun s K => ?_⟩
      · rw [if_neg d0, if_neg (by rw [n_lt hw hn]; omega)]
      · rw [if_neg d0, if_pos (by rw [n_le hn hw]; omega)]
    · left
      refine ⟨?_, fun s K => ?_⟩
      · rw [if_neg d0, if_pos (by rw [n_lt hw hn]; omega)]
      · rw [if_neg d0, if_neg (by rw [n_le hn hw]; omega)]
theorem o_who (fu : Nat) (hfu : 1000 ≤ fu) (a1 : Int32) : sameI (f_X8_who fu a1) (f_X9_who fu a1) := by
  intro X M h
  have stop : ∀ v : Int32, ∃ r X' M', some (v, X) = some (r, X') ∧ some (v, M) = some (r, M') ∧ Rl X' M' := fun v => ⟨_, _, _, rfl, rfl, h⟩
  obtain ⟨hc, q1, q2, q3, -⟩ := h.2.1
  rw [f_X8_who, f_X9_who, s_inb, e_cl]
  rcases c_le (w := 1) (by decide) a1 with ⟨e1, e2⟩ | ⟨n, hn, rfl, e1, e2⟩
  · rw [show (1 : Int32) = nI 1 from rfl, e1, e2, if_pos rfl]; exact stop _
  · rw [show (1 : Int32) = nI 1 from rfl, e1, e2, if_neg (show ¬ (1 : Int32) = 0 by decide)]
    exact s_who_loop fu hfu q1 (nI n) hc 0 fu (-1) (-1) X M h q2 q3 (by omega) (by omega)
