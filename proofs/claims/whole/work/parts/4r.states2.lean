/-! states: the class's pairs, level by level -/
def p_nx (T : Nat → List Nat) (P k mo b few : Nat) (p : Nat) (l : List (Int32 × Int32)) : List (Int32 × Int32) := l.flatMap (fun s => (List.range' 1 few).map (fun v => h_step T (nI P) k mo (nI b) (nI v) p s))
def p_lv (T : Nat → List Nat) (P k mo b few : Nat) (s0 : Int32 × Int32) : Nat → List (Int32 × Int32)
  | 0 => [s0]
  | m + 1 => p_nx T P k mo b few m (p_lv T P k mo b few s0 m)
def p_al (T : Nat → List Nat) (P k mo b few : Nat) (s0 : Int32 × Int32) : Nat → List (Int32 × Int32)
  | 0 => [s0]
  | m + 1 => p_al T P k mo b few s0 m ++ p_lv T P k mo b few s0 (m + 1)
def p_sg (few : Nat) : Nat → Nat
  | 0 => 1
  | m + 1 => p_sg few m + few ^ (m + 1)
theorem p_sg_le : ∀ few, few < 7 → ∀ m, m < 4 → p_sg few m ≤ 259 := by decide +kernel
theorem p_sg_mono (few : Nat) {m m' : Nat} (h : m ≤ m') : p_sg few m ≤ p_sg few m' := by
  induction m' with
  | zero => rw [Nat.le_zero.mp h]; exact Nat.le_refl _
  | succ q ih =>
    rcases Nat.lt_or_ge m (q + 1) with z | z
    · have := ih (by omega); rw [p_sg]; omega
    · rw [show m = q + 1 by omega]; exact Nat.le_refl _
section
variable (T : Nat → List Nat) (P k mo b few : Nat) (s0 : Int32 × Int32)
theorem p_nx_len (p : Nat) : ∀ l : List (Int32 × Int32), (p_nx T P k mo b few p l).length = few * l.length := by
  intro l
  induction l with
  | nil => rfl
  | cons x l ih =>
    unfold p_nx at ih ⊢
    rw [List.flatMap_cons, List.length_append, ih, List.length_map, List.length_range', List.length_cons, Nat.mul_add, Nat.mul_one, Nat.add_comm]
theorem p_lv_len : ∀ m, (p_lv T P k mo b few s0 m).length = few ^ m := by
  intro m
  induction m with
  | zero => rfl
  | succ m ih => rw [p_lv, p_nx_len, ih, Nat.pow_succ, Nat.mul_comm]
theorem p_al_len : ∀ m, (p_al T P k mo b few s0 m).length = p_sg few m := by
  intro m
  induction m with
  | zero => rfl
  | succ m ih => rw [p_al, List.length_append, ih, p_lv_len, p_sg]
/-- the last level lies at the end of all -/
theorem p_al_end : ∀ m, ∃ pre, p_al T P k mo b few s0 m = pre ++ p_lv T P k mo b few s0 m := by
  intro m
  cases m with
  | zero => exact ⟨[], rfl⟩
  | succ m => exact ⟨_, rfl⟩
end
/-- the walk as states leaves it between the pairs -/
def x_wk (X : ow_S) (T : Nat → List Nat) (t c P k mo b : Nat) (f s : Int32) : Prop := X.2.2 10 2 = some t ∧ x_text X.1 t T ∧ x_head X.1 c k mo (nI b) f s ∧ X.1 11 5 = nI mo ∧ X.1 11 4 = nI P
def x_ar (X : ow_S) (acc : List (Int32 × Int32)) : Prop := ∀ z, z < acc.length → X.1 14 z = pe (acc.getD z (0, 0))
def x_fp (X X' : ow_S) : Prop := ∀ c, c ≠ 11 → c ≠ 12 → c ≠ 14 → X'.1 c = X.1 c
theorem x_fp.rf (X : ow_S) : x_fp X X := fun _ _ _ _ => rfl
theorem x_fp.tr {a b c : ow_S} (p : x_fp a b) (q : x_fp b c) : x_fp a c := fun k h1 h2 h3 => (q k h1 h2 h3).trans (p k h1 h2 h3)
theorem x_fp.sc {X X' : ow_S} (w : x_fp X X') : xsc X X' := ⟨fun c hc => w c (by omega) (by omega) (by omega), by rw [w 7 (by omega) (by omega) (by omega)]⟩
/-- one pair kept, one card met, the pair that comes of it -/
theorem s_pair1 (fu : Nat) (hfu : 1000 ≤ fu) {X : ow_S} {T : Nat → List Nat} {t c P k mo b p : Nat} {f s : Int32} (ht : 14 < t) (hc : 14 < c) (hb : b ≤ 16) (hp : p < 1000) (hE : x_wk X T t c P k mo b f s) {u : Int32 × Int32} (hu : pz u) (card : Int32) : ∃ X0 X1, f_X7_keepPair fu (pe u) X = some X0 ∧ f_X7_pass fu c card (nI p) X0 = some X1 ∧ f_X7_pair fu X1 = some (pe (h_step T (nI P) k mo (nI b) card p u), X1) ∧ x_wk X1 T t c P k mo b f s ∧ x_fp X X1 ∧ X1.1 14 = X.1 14 := by
  obtain ⟨e1, e2, e3, e4, e5⟩ := hE
  obtain ⟨X0, hX0⟩ : ∃ X0, X0 = ow_sI (ow_sI X 11 0 u.1) 11 1 u.2 := ⟨_, rfl⟩
  have hk : f_X7_keepPair fu (pe u) X = some X0 := by
    rw [f_X7_keepPair, pe_hi hu, pe_lo hu, hX0]; rfl
  have w0 : ∀ q, q ≠ 11 → X0.1 q = X.1 q := fun q hq => by rw [hX0, g_k _ _ hq, g_k _ _ hq]
  have a0 : X0.1 11 0 = u.1 := by rw [hX0, g_j _ _ (by decide), g_same]
  have a1 : X0.1 11 1 = u.2 := by rw [hX0, g_same]
  have a4 : X0.1 11 4 = nI P := by rw [hX0, g_j _ _ (by decide), g_j _ _ (by decide)]; exact e5
  have a5 : X0.1 11 5 = nI mo := by rw [hX0, g_j _ _ (by decide), g_j _ _ (by decide)]; exact e4
  have hT : x_text X0.1 t T := e2.fr (w0 _ (by omega)) (w0 _ (by omega)) (w0 _ (by omega))
  have hH : x_head X0.1 c k mo (nI b) f s := by
    unfold x_head at e3 ⊢; rw [w0 c (by omega)]; exact e3
  have hR : X0.2.2 10 2 = some t := by rw [hX0]; exact e1
  obtain ⟨X1, b1, b2, b3, b4, b5⟩ := s_X7_pass fu hfu (by omega) (Or.inl (by omega)) hR hT hH hp a5 card
  rw [a0, a1, a4] at b2
  have c0 : X1.1 11 0 = (h_step T (nI P) k mo (nI b) card p u).1 := congrArg Prod.fst b2
  have c1 : X1.1 11 1 = (h_step T (nI P) k mo (nI b) card p u).2 := congrArg Prod.snd b2
  refine ⟨X0, X1, hk, b1, ?_, ⟨?_, hT.fw b5 (by omega), hH.fw b5 (Or.inl (by omega)), b4.trans a5, b3.trans a4⟩, fun q h1 h2 h3 => (b5.1 q h1 h2).trans (w0 q h1), (b5.1 14 (by decide) (by decide)).trans (w0 14 (by decide))⟩
  · rw [f_X7_pair, c0, c1]; rfl
  · rw [b5.2]; exact hR
theorem x_wk.p {X : ow_S} {T : Nat → List Nat} {t c P k mo b : Nat} {f s : Int32} (h : x_wk X T t c P k mo b f s) (ht : 14 < t) (hc : 14 < c) (z : Nat) (v : Int32) : x_wk (ow_sI X 14 z v) T t c P k mo b f s := by
  obtain ⟨e1, e2, e3, e4, e5⟩ := h
  refine ⟨e1, e2.fr (g_k _ _ (by omega)) (g_k _ _ (by omega)) (g_k _ _ (by omega)), ?_, by rw [g_k _ _ (by decide)]; exact e4, by rw [g_k _ _ (by decide)]; exact e5⟩
  unfold x_head at e3 ⊢; rw [g_k _ _ (by omega)]; exact e3
theorem x_ar.push {X X' : ow_S} {acc : List (Int32 × Int32)} (h : x_ar X acc) (w : X'.1 14 = X.1 14) (u : Int32 × Int32) : x_ar (ow_sI X' 14 acc.length (pe u)) (acc ++ [u]) := by
  intro z hz
  rw [List.length_append, List.length_singleton] at hz
  by_cases e : z = acc.length
  · subst e
    rw [g_same, gd_ar _ _ _ (Nat.le_refl _), Nat.sub_self]; rfl
  · rw [g_j _ _ e, w, gd_al _ _ _ (by omega)]; exact h z (by omega)
theorem s_ext_in (fu : Nat) (hfu : 1000 ≤ fu) (k8 : Nat → Int32 → Int32 → Int32 → Int32 → Int32 → ow_S → Option (Int32 × ow_S)) {T : Nat → List Nat} {t c P k mo b few p i : Nat} {f s to : Int32} (ht : 14 < t) (hc : 14 < c) (hb : b ≤ 16) (hp : p < 1000) (hi : i < 259) (hfew : few ≤ 6) {u : Int32 × Int32} (hu : pz u) : ∀ (q v fn : Nat) (acc : List (Int32 × Int32)) (X : ow_S), x_wk X T t c P k mo b f s → x_ar X acc → i < acc.length → acc.getD i (0, 0) = u → v + q = few + 1 → acc.length + q ≤ 259 → q < fn → ∃ X', L_X8_extendPairs_18 fu k8 fn c (nI few) (nI p) to (nI acc.length) (nI i) (nI v) X = k8 c (nI few) (nI p) to (nI (acc ++ (List.range' v q).map (fun v => h_step T (nI P) k mo (nI b) (nI v) p u)).length) (nI (i + 1)) X' ∧ x_wk X' T t c P k mo b f s ∧ x_ar X' (acc ++ (List.range' v q).map (fun v => h_step T (nI P) k mo (nI b) (nI v) p u)) ∧ x_fp X X' := by
  intro q
  induction q with
  | zero =>
    intro v fn acc X hE hA hia hau hv hl hf
    obtain ⟨fn, rfl⟩ : ∃ q, fn = q + 1 := ⟨fn - 1, by omega⟩
    rw [List.range'_zero, List.map_nil, List.append_nil]
    refine ⟨X, ?_, hE, hA, x_fp.rf X⟩
    rw [L_X8_extendPairs_18, if_pos (by rw [n_lt (by omega) (by omega)]; omega), L_X8_extendPairs_80, e_let, show nI i + (1 : Int32) = nI (i + 1) from n_add i 1]
  | succ q ih =>
    intro v fn acc X hE hA hia hau hv hl hf
    obtain ⟨fn, rfl⟩ : ∃ q, fn = q + 1 := ⟨fn - 1, by omega⟩
    obtain ⟨X0, X1, a1, a2, a3, a4, a5, a6⟩ := s_pair1 fu hfu ht hc hb hp hE hu (nI v)
    have hp14 : X.1 14 i = pe u := by rw [hA i hia, hau]
    have hA1 := hA.push a6 (h_step T (nI P) k mo (nI b) (nI v) p u)
    have hE1 := a4.p ht hc acc.length (pe (h_step T (nI P) k mo (nI b) (nI v) p u))
    have hl1 : (acc ++ [h_step T (nI P) k mo (nI b) (nI v) p u]).length = acc.length + 1 := by rw [List.length_append, List.length_singleton]
    obtain ⟨X2, b1, b2, b3, b4⟩ := ih (v + 1) fn _ _ hE1 hA1 (by omega) (by rw [gd_al _ _ _ hia]; exact hau) (by omega) (by omega) (by omega)
    rw [List.range'_succ, List.map_cons, List.append_cons]
    refine ⟨X2, ?_, b2, b3, fun z h1 h2 h3 => (b4 z h1 h2 h3).trans ((g_k _ _ h3).trans (a5 z h1 h2 h3))⟩
    rw [L_X8_extendPairs_18, if_neg (by rw [n_lt (by omega) (by omega)]; omega), if_neg (show ¬ (259 : Int32) ≤ nI acc.length by rw [show (259 : Int32) = nI 259 from rfl, n_le (by decide) (by omega)]; omega), e_ckn _ (by omega) hi, n_cl (a := i) (by omega), hp14, a1, e_cv, a2, e_cv, a3, e_cl, e_ckn _ (by omega) (by omega), n_cl (a := acc.length) (by omega), e_let, e_let, e_let, show nI acc.length + (1 : Int32) = nI (acc.length + 1) from n_add _ 1, show nI v + (1 : Int32) = nI (v + 1) from n_add _ 1, ← hl1]
    exact b1
theorem s_ext_out (fu : Nat) (hfu : 1000 ≤ fu) {T : Nat → List Nat} {t c P k mo b few p to : Nat} {f s : Int32} (ht : 14 < t) (hc : 14 < c) (hb : b ≤ 16) (hp : p < 1000) (hfew : few ≤ 6) : ∀ (ls : List (Int32 × Int32)) (i fn : Nat) (acc : List (Int32 × Int32)) (X : ow_S), x_wk X T t c P k mo b f s → x_ar X acc → (∀ u, u ∈ acc → pz u) → (∀ z, z < ls.length → acc.getD (i + z) (0, 0) = ls.getD z (0, 0)) → i + ls.length = to → to ≤ acc.length → acc.length + few * ls.length ≤ 259 → ls.length < fn → ∃ X', L_X8_extendPairs_8 fu fn c (nI few) (nI p) (nI to) (nI acc.length) (nI i) X = some (nI (acc ++ p_nx T P k mo b few p ls).length, X') ∧ x_wk X' T t c P k mo b f s ∧ x_ar X' (acc ++ p_nx T P k mo b few p ls) ∧ x_fp X X' := by
  intro ls
  induction ls with
  | nil =>
    intro i fn acc X hE hA hz hg hi hto hl hf
    obtain ⟨fn, rfl⟩ : ∃ q, fn = q + 1 := ⟨fn - 1, by omega⟩
    rw [List.length_nil] at hi
    rw [show p_nx T P k mo b few p [] = [] from rfl, List.append_nil]
    refine ⟨X, ?_, hE, hA, x_fp.rf X⟩
    rw [L_X8_extendPairs_8, if_pos (by rw [n_le (by omega) (by omega)]; omega)]
  | cons u ls ih =>
    intro i fn acc X hE hA hz hg hi hto hl hf
    obtain ⟨fn, rfl⟩ : ∃ q, fn = q + 1 := ⟨fn - 1, by omega⟩
    rw [List.length_cons] at hi hf hl
    rw [Nat.mul_add, Nat.mul_one] at hl
    have hu : acc.getD i (0, 0) = u := hg 0 (by rw [List.length_cons]; omega)
    have hpu : pz u := hz u (by
      rw [← hu, gd_el _ (show i < acc.length by omega)]; exact List.getElem_mem _)
    obtain ⟨X1, a1, a2, a3, a4⟩ := s_ext_in fu hfu (L_X8_extendPairs_8 fu fn) (to := nI to) ht hc hb hp (show i < 259 by omega) hfew hpu few 1 fu acc X hE hA (by omega) hu (by omega) (by omega) (by omega)
    have hl1 : (acc ++ (List.range' 1 few).map (fun v => h_step T (nI P) k mo (nI b) (nI v) p u)).length = acc.length + few := by rw [List.length_append, List.length_map, List.length_range']
    obtain ⟨X2, b1, b2, b3, b4⟩ := ih (i + 1) fn _ X1 a2 a3 (fun w hw => by
      rcases List.mem_append.mp hw with hw | hw
      · exact hz w hw
      · obtain ⟨v, -, rfl⟩ := List.mem_map.mp hw
        exact pz_step hpu T (nI P) k mo hb (nI v) p) (fun z hz' => by
      rw [gd_al _ _ _ (by omega), show i + 1 + z = i + (z + 1) by omega, hg (z + 1) (by rw [List.length_cons]; omega)]; rfl) (by omega) (by omega) (by omega) (by omega)
    have en : p_nx T P k mo b few p (u :: ls) = (List.range' 1 few).map (fun v => h_step T (nI P) k mo (nI b) (nI v) p u) ++ p_nx T P k mo b few p ls := by
      unfold p_nx; rw [List.flatMap_cons]
    rw [en, ← List.append_assoc]
    refine ⟨X2, ?_, b2, b3, a4.tr b4⟩
    rw [L_X8_extendPairs_8, if_neg (by rw [n_le (by omega) (by omega)]; omega), show (1 : Int32) = nI 1 from rfl, a1]
    exact b1
