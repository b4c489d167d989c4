/-! states: the same pairs on both sides -/
section
variable (T : Nat → List Nat) (P k mo b few : Nat) (s0 : Int32 × Int32)
theorem p_F_mod (hf : 0 < few) {q : Nat} : ∀ (m num : Nat), m ≤ q → p_F T P k mo b few s0 m (num % few ^ q) = p_F T P k mo b few s0 m num := by
  intro m
  induction m with
  | zero => intro num _; rfl
  | succ m ih =>
    intro num hm
    rw [p_F, p_F, ih num (by omega)]
    have e : num % few ^ q / few ^ m % few = num / few ^ m % few := by
      have e1 : few ^ q = few ^ m * few ^ (q - m) := by rw [← Nat.pow_add]; congr 1; omega
      rw [e1, Nat.mod_mul_right_div_self]
      refine Nat.mod_mod_of_dvd _ ?_
      have := Nat.pow_dvd_pow few (show 1 ≤ q - m by omega)
      rwa [Nat.pow_one] at this
    rw [e]
theorem p_lv_mem (hf : 0 < few) : ∀ (m : Nat) (u : Int32 × Int32), u ∈ p_lv T P k mo b few s0 m ↔ ∃ num, num < few ^ m ∧ u = p_F T P k mo b few s0 m num := by
  intro m
  induction m with
  | zero =>
    intro u
    rw [p_lv, List.mem_singleton]
    exact ⟨fun h => ⟨0, by rw [Nat.pow_zero]; exact Nat.one_pos, h⟩, fun ⟨n, _, h⟩ => h⟩
  | succ m ih =>
    intro u
    have hF : 0 < few ^ m := Nat.pow_pos hf
    rw [p_lv]
    unfold p_nx
    rw [List.mem_flatMap]
    constructor
    · rintro ⟨s, hs, hu⟩
      obtain ⟨v, hv, rfl⟩ := List.mem_map.mp hu
      rw [List.mem_range'_1] at hv
      obtain ⟨lo, h1, rfl⟩ := (ih s).mp hs
      have hd : (few ^ m * (v - 1) + lo) / few ^ m = v - 1 := by
        rw [Nat.mul_add_div hF, Nat.div_eq_of_lt h1, Nat.add_zero]
      have hr : (few ^ m * (v - 1) + lo) % few ^ m = lo := by
        rw [Nat.mul_add_mod, Nat.mod_eq_of_lt h1]
      refine ⟨few ^ m * (v - 1) + lo, ?_, ?_⟩
      · rw [Nat.pow_succ]
        have h2 : few ^ m * (v - 1) + few ^ m ≤ few ^ m * few := by
          rw [← Nat.mul_succ]; exact Nat.mul_le_mul_left _ (by omega)
        omega
      · rw [p_F, hd, Nat.mod_eq_of_lt (show v - 1 < few by omega), show v - 1 + 1 = v by omega, ← p_F_mod T P k mo b few s0 hf m (few ^ m * (v - 1) + lo) (Nat.le_refl m), hr]
    · rintro ⟨num, h1, rfl⟩
      refine ⟨p_F T P k mo b few s0 m num, (ih _).mpr ⟨num % few ^ m, Nat.mod_lt _ hF, (p_F_mod T P k mo b few s0 hf m num (Nat.le_refl m)).symm⟩, ?_⟩
      rw [p_F]
      refine List.mem_map.mpr ⟨num / few ^ m % few + 1, ?_, rfl⟩
      rw [List.mem_range'_1]
      have := Nat.mod_lt (num / few ^ m) hf
      omega
theorem p_al_mem : ∀ (n : Nat) (u : Int32 × Int32), u ∈ p_al T P k mo b few s0 n ↔ ∃ m, m ≤ n ∧ u ∈ p_lv T P k mo b few s0 m := by
  intro n
  induction n with
  | zero =>
    intro u
    constructor
    · intro h; exact ⟨0, Nat.le_refl _, h⟩
    · rintro ⟨m, hm, h⟩
      rw [Nat.le_zero.mp hm] at h; exact h
  | succ n ih =>
    intro u
    rw [p_al, List.mem_append, ih]
    constructor
    · rintro (⟨m, hm, h⟩ | h)
      · exact ⟨m, by omega, h⟩
      · exact ⟨n + 1, Nat.le_refl _, h⟩
    · rintro ⟨m, hm, h⟩
      rcases Nat.lt_or_ge m (n + 1) with z | z
      · exact Or.inl ⟨m, by omega, h⟩
      · rw [show m = n + 1 by omega] at h; exact Or.inr h
theorem p_DD_mem : ∀ (q many : Nat) (y : Int32), y ∈ p_DD T P k mo b few s0 many q ↔ ∃ m num, many ≤ m ∧ m < many + q ∧ num < few ^ m ∧ y = pe (p_F T P k mo b few s0 m num) := by
  intro q
  induction q with
  | zero =>
    intro many y
    rw [p_DD]
    exact ⟨fun h => absurd h List.not_mem_nil, fun ⟨m, num, a, b, _⟩ => by omega⟩
  | succ q ih =>
    intro many y
    rw [p_DD, List.mem_append, ih]
    constructor
    · rintro (h | ⟨m, num, a, c, d, e⟩)
      · obtain ⟨num, hn, rfl⟩ := List.mem_map.mp h
        rw [List.mem_range'_1] at hn
        exact ⟨many, num, Nat.le_refl _, by omega, by omega, rfl⟩
      · exact ⟨m, num, by omega, by omega, d, e⟩
    · rintro ⟨m, num, a, c, d, e⟩
      by_cases z : m = many
      · subst z
        left
        exact List.mem_map.mpr ⟨num, by rw [List.mem_range'_1]; omega, e.symm⟩
      · right
        exact ⟨m, num, by omega, by omega, d, e⟩
theorem p_same (hf : 0 < few) (n : Nat) : (ins [] ((p_al T P k mo b few s0 n).map pe)).length = (ins [] (p_DD T P k mo b few s0 0 (n + 1))).length := by
  refine ins_same (fun y => ?_)
  rw [p_DD_mem, List.mem_map]
  constructor
  · rintro ⟨u, hu, rfl⟩
    obtain ⟨m, hm, h⟩ := (p_al_mem T P k mo b few s0 n u).mp hu
    obtain ⟨num, h1, rfl⟩ := (p_lv_mem T P k mo b few s0 hf m u).mp h
    exact ⟨m, num, Nat.zero_le _, by omega, h1, rfl⟩
  · rintro ⟨m, num, -, a, c, rfl⟩
    exact ⟨_, (p_al_mem T P k mo b few s0 n _).mpr ⟨m, by omega, (p_lv_mem T P k mo b few s0 hf m _).mpr ⟨num, c, rfl⟩⟩, rfl⟩
theorem p_lv_pz (hb : b ≤ 16) (h0 : pz s0) : ∀ (m : Nat) (u : Int32 × Int32), u ∈ p_lv T P k mo b few s0 m → pz u := by
  intro m
  induction m with
  | zero => intro u h; rw [p_lv, List.mem_singleton] at h; rw [h]; exact h0
  | succ m ih =>
    intro u h
    rw [p_lv] at h
    unfold p_nx at h
    obtain ⟨s, hs, hu⟩ := List.mem_flatMap.mp h
    obtain ⟨v, -, rfl⟩ := List.mem_map.mp hu
    exact pz_step (ih s hs) T (nI P) k mo hb (nI v) m
end
theorem s_st_loop (fu : Nat) (hfu : 1000 ≤ fu) {T : Nat → List Nat} {t j P k mo b few n : Nat} {f s : Int32} {s0 : Int32 × Int32} (ht : 14 < t) (h5 : j < 5) (hb : b ≤ 16) (hfew : few ≤ 6) (hn : n ≤ 3) (h0 : pz s0) : ∀ (q m fn : Nat) (X : ow_S), x_wk X T t (25 + j) P k mo b f s → x_ar X (p_al T P k mo b few s0 m) → m + q = n → q < fn → ∃ X', L_X8_states_85 fu fn (nI j) (nI few) (nI n) (nI (p_sg few m - few ^ m)) (nI (p_sg few m)) (nI m) X = some (nI (ins [] ((p_al T P k mo b few s0 n).map pe)).length, X') ∧ x_fp X X' := by
  intro q
  induction q with
  | zero =>
    intro m fn X hE hA hm hf
    obtain ⟨fn, rfl⟩ : ∃ q, fn = q + 1 := ⟨fn - 1, by omega⟩
    have hmn : m = n := by omega
    subst hmn
    have hlen := p_al_len T P k mo b few s0 m
    have hsg := p_sg_le few (by omega) m (by omega)
    have hu := s_X8_unlikePairs fu hfu (C := (p_al T P k mo b few s0 m).map pe) (by rw [List.length_map, hlen]; exact hsg) (σ := X) (fun p hp => by
      rw [List.length_map] at hp
      rw [hA p hp, gd_el _ hp, gd_el _ (show p < ((p_al T P k mo b few s0 m).map pe).length by rw [List.length_map]; exact hp), List.getElem_map])
    rw [List.length_map, hlen] at hu
    refine ⟨X, ?_, x_fp.rf X⟩
    rw [L_X8_states_85, if_pos (by rw [n_le (by omega) (by omega)]; omega), hu, e_cl]
  | succ q ih =>
    intro m fn X hE hA hm hf
    obtain ⟨fn, rfl⟩ : ∃ q, fn = q + 1 := ⟨fn - 1, by omega⟩
    have hlen := p_al_len T P k mo b few s0 m
    have hlen2 := p_al_len T P k mo b few s0 (m + 1)
    have hlv := p_lv_len T P k mo b few s0 m
    have hsg := p_sg_le few (by omega) (m + 1) (by omega)
    have hsg0 := p_sg_le few (by omega) m (by omega)
    obtain ⟨pre, hpre⟩ := p_al_end T P k mo b few s0 m
    have hpl : pre.length + few ^ m = p_sg few m := by rw [← hlen, hpre, List.length_append, hlv]
    obtain ⟨X1, a1, a2, a3, a4⟩ := s_ext_out fu hfu (p := m) (few := few) (to := p_sg few m) ht (show 14 < 25 + j by omega) hb (by omega) hfew (p_lv T P k mo b few s0 m) pre.length fu (p_al T P k mo b few s0 m) X hE hA (fun u hu => by
      obtain ⟨m', -, h⟩ := (p_al_mem T P k mo b few s0 m u).mp hu
      exact p_lv_pz T P k mo b few s0 hb h0 m' u h) (fun z hz => by
      rw [hpre, gd_ar _ _ _ (by omega), show pre.length + z - pre.length = z by omega]) (by rw [hlv]; exact hpl) (by rw [hlen]; exact Nat.le_refl _) (by rw [hlen, hlv, ← Nat.pow_succ']; exact hsg) (by rw [hlv]; omega)
    have e1 : p_al T P k mo b few s0 m ++ p_nx T P k mo b few m (p_lv T P k mo b few s0 m) = p_al T P k mo b few s0 (m + 1) := rfl
    rw [e1, hlen2] at a1
    rw [e1] at a3
    rw [hlen] at a1
    obtain ⟨X2, b1, b2⟩ := ih (m + 1) fn X1 a2 a3 (by omega) (by omega)
    refine ⟨X2, ?_, a4.tr b2⟩
    rw [L_X8_states_85, if_neg (by rw [n_le (by omega) (by omega)]; omega), e_ckn _ (by omega) (by omega), n_cl (a := j) (by omega), e_let, f_X8_extendPairs, show p_sg few m - few ^ m = pre.length by omega, a1, e_cl, e_let, show nI m + (1 : Int32) = nI (m + 1) from n_add _ 1]
    rw [show p_sg few (m + 1) - few ^ (m + 1) = p_sg few m by rw [p_sg]; omega] at b1
    exact b1
theorem o_states (fu : Nat) (hfu : 1000 ≤ fu) (a1 a2 a3 : Int32) : sameI (f_X8_states fu a1 a2 a3) (f_X9_states fu a1 a2 a3) := by
  intro X M h
  have stop : ∀ v : Int32, ∃ r X' M', some (v, X) = some (r, X') ∧ some (v, M) = some (r, M') ∧ Rl X' M' := fun v => ⟨_, _, _, rfl, rfl, h⟩
  obtain ⟨hc, q1, q2, q3, q4, bb, e1, e2, hb⟩ := s_isHead fu h.2.1 a1
  rw [f_X8_states, f_X9_states, e1, e2, e_cl, e_cl]
  cases bb with
  | false => exact stop _
  | true =>
    obtain ⟨j, hj, rfl⟩ := hb rfl
    obtain ⟨P, law, T, k, mo, b, f, s, p1, p2, hl, hx, hm, w1, w2, w3, w4⟩ := h.hat q2 q1 hj
    rw [if_pos rfl, if_neg (show ¬ (1 : Int32) = 0 by decide), if_neg (show ¬ (1 : Int32) = 0 by decide), s_inb, e_cl]
    rcases inb_cases (v := a2) (a := 1) (b := 6) (by decide) (by decide) with i2 | ⟨i2, few, n3, n4, rfl⟩
    · rw [show inb a2 1 6 = 0 from i2, if_pos rfl]
      unfold inb at i2
      by_cases c1 : a2 < 1
      · rw [if_pos c1]; exact stop _
      · rw [if_neg c1]
        rw [if_neg (show ¬ a2 < nI 1 from c1)] at i2
        by_cases c2 : (6 : Int32) < a2
        · rw [if_pos c2]; exact stop _
        · rw [if_neg (show ¬ nI 6 < a2 from c2)] at i2; exact absurd i2 (by decide)
    have k1 : ¬ nI few < (1 : Int32) := by rw [show (1 : Int32) = nI 1 from rfl, n_lt (by omega) (by decide)]; omega
    have k2 : ¬ (6 : Int32) < nI few := by rw [show (6 : Int32) = nI 6 from rfl, n_lt (by decide) (by omega)]; omega
    rw [show inb (nI few) 1 6 = 1 from i2, if_neg k1, if_neg k2, if_neg (show ¬ (1 : Int32) = 0 by decide), hx.1, hm.1]
    by_cases c3 : nI P < nI few
    · rw [if_pos c3, if_pos c3]; exact stop _
    rw [if_neg c3, if_neg c3, s_inb, e_cl]
    rcases c_le (w := 3) (by decide) a3 with ⟨c1, c2⟩ | ⟨n, hn, rfl, c1, c2⟩
    · rw [show inb a3 0 3 = 0 from c1, if_pos rfl]
      rw [show (3 : Int32) = nI 3 from rfl, c2]; exact stop _
    · have c2' : ∀ {α : Type} (s K : α), (if nI n < 0 then s else if nI n ≤ (3 : Int32) then K else s) = K := c2
      rw [show inb (nI n) 0 3 = 1 from c1, if_neg (show ¬ (1 : Int32) = 0 by decide), c2', e_ckn _ (by omega) (by omega), n_cl (a := j) (by omega), e_let, s_law fu hl hx.2.1, e_cl, hx.1]
      obtain ⟨X1, u1, u2, u3, u4, u5, u6, u7⟩ := s_X7_setOutAs fu (30 + 3 * law) (25 + j) (nI P) (by omega) X
      obtain ⟨x0, x1, x2, x3, x4, x5⟩ := id hx.2.2.2
      rw [x2, x3] at u2
      rw [x2, x4] at u3
      have h0 : pz (nI f &&& h_mask (nI b), nI s &&& h_mask (nI b)) := ⟨pz_mask w2 _, pz_mask w2 _⟩
      have hE : x_wk X1 T (30 + 3 * law) (25 + j) P k mo b (nI f) (nI s) := by
        refine ⟨u7, hx.2.2.1.fr (u6 _ (by omega)) (u6 _ (by omega)) (u6 _ (by omega)), ?_, u5.trans x1, u4⟩
        have hh := hx.2.2.2
        unfold x_head at hh ⊢
        rw [u6 (25 + j) (by omega)]; exact hh
      have hE2 := hE.p (by omega) (by omega) 0 (pe (nI f &&& h_mask (nI b), nI s &&& h_mask (nI b)))
      have hA2 : x_ar (ow_sI X1 14 0 (pe (nI f &&& h_mask (nI b), nI s &&& h_mask (nI b)))) (p_al T P k mo b few (nI f &&& h_mask (nI b), nI s &&& h_mask (nI b)) 0) := by
        intro z hz
        rw [p_al, List.length_singleton] at hz
        rw [show z = 0 by omega, g_same]; rfl
      obtain ⟨X2, y1, y2⟩ := s_st_loop fu hfu (t := 30 + 3 * law) (j := j) (b := b) (few := few) (n := n) (s0 := (nI f &&& h_mask (nI b), nI s &&& h_mask (nI b))) (by omega) (by omega) w2 n4 hn h0 n 0 fu _ hE2 hA2 (by omega) (by omega)
      have hm0 : m_at (ow_sI M 56 40 0) P law j k mo (nI b) (nI f) (nI s) T := hm.fp ⟨fun c _ _ _ h4 => g_k _ _ h4, fun z _ _ h3 => g_j _ _ h3⟩
      obtain ⟨M2, z1, z2⟩ := s_many fu hfu (n := n) hl (show j < 5 by omega) n4 (by omega) hn (n + 1) 0 fu [] _ hm0 ⟨g_same _ _ _ _, fun z hz => by simp at hz⟩ (Nat.zero_le _) (by omega) (by omega)
      have hpair : f_X7_pair fu X1 = some (pe (nI f &&& h_mask (nI b), nI s &&& h_mask (nI b)), X1) := by
        rw [f_X7_pair, u2, u3]; rfl
      rw [u1, e_cv, hpair, e_cl, e_let, e_let]
      rw [← p_same T P k mo b few _ (by omega) n] at z1
      refine ⟨_, X2, M2, y1, z1, h.sc (xsc.tr (x_fp.sc (X' := ow_sI X1 14 0 (pe (nI f &&& h_mask (nI b), nI s &&& h_mask (nI b)))) (fun c h1 h2 h3 => (g_k _ _ h3).trans (u6 c h1))) y2.sc) (msc.tr (m_fp.sc (M' := ow_sI M 56 40 0) ⟨fun c _ _ _ h4 => g_k _ _ h4, fun z _ _ h3 => g_j _ _ h3⟩) z2.sc)⟩
