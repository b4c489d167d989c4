/-! WORLDS THAT GROW, for constructors: cells lo .. lo + n - 1 are there, cell k at its address; what is made comes behind -/
def gz (Z : ow_Z) (lo : Nat) (ads : List Nat) : ow_Z := (Z.1, Z.2.1, (fun k => if k < lo then ow_ad Z k else ads.getD (k - lo) 0), Z.2.2.2)
def gr (m : Nat) (σ : ow_S) : Prop := ∀ k j t, k < m → σ.2.2 k j = some t → t < m
def gws (Z : ow_Z) (lo : Nat) (ads : List Nat) (σ : ow_S) : va_W := ow_W (gz Z lo ads) lo ads.length σ
def gW (Z : ow_Z) (A : Nat → Prop) (lo : Nat) (ads : List Nat) (σ : ow_S) (s : State) (H : Heap) (locs : List Loc) : Prop := va_P Z.1 vwCl (gws Z lo ads σ) H ∧ va_D A (gws Z lo ads σ) ∧ va_S A s.heap H locs ∧ gr (lo + ads.length) σ
theorem gz_lt (Z : ow_Z) (lo : Nat) (ads l : List Nat) {k : Nat} (h : k < lo + ads.length) : ow_ad (gz Z lo (ads ++ l)) k = ow_ad (gz Z lo ads) k := by
  show (if k < lo then ow_ad Z k else (ads ++ l).getD (k - lo) 0) = (if k < lo then ow_ad Z k else ads.getD (k - lo) 0)
  by_cases c : k < lo
  · rw [if_pos c, if_pos c]
  · rw [if_neg c, if_neg c, List.getD_eq_getElem?_getD, List.getElem?_append_left (by omega), ← List.getD_eq_getElem?_getD]
theorem gz_new (Z : ow_Z) (lo : Nat) (ads : List Nat) (q : Nat) : ow_ad (gz Z lo (ads ++ [q])) (lo + ads.length) = q := by
  show (if lo + ads.length < lo then ow_ad Z (lo + ads.length) else (ads ++ [q]).getD (lo + ads.length - lo) 0) = q
  rw [if_neg (by omega), show lo + ads.length - lo = ads.length by omega, List.getD_eq_getElem?_getD, List.getElem?_append_right (Nat.le_refl _), Nat.sub_self]; rfl
theorem gE_app (Z : ow_Z) {lo : Nat} (ads l : List Nat) {σ : ow_S} (h : gr (lo + ads.length) σ) {k : Nat} (hk : k < lo + ads.length) : ow_E (gz Z lo (ads ++ l)) σ k = ow_E (gz Z lo ads) σ k := by
  have e : ∀ j, (σ.2.2 k j).map (ow_ad (gz Z lo (ads ++ l))) = (σ.2.2 k j).map (ow_ad (gz Z lo ads)) := by
    intro j
    cases c : σ.2.2 k j with
    | none => rfl
    | some t => show some _ = some _; rw [gz_lt Z lo ads l (h k j t hk c)]
  have ev : ∀ j f, ow_v (gz Z lo (ads ++ l)) σ k j f = ow_v (gz Z lo ads) σ k j f := fun j f => by
    unfold ow_v; rw [e j]
  unfold ow_E
  simp only [ev, e]
  rfl
theorem gws_app (Z : ow_Z) {lo : Nat} (ads l : List Nat) {σ : ow_S} (h : gr (lo + ads.length) σ) : ow_W (gz Z lo (ads ++ l)) lo ads.length σ = gws Z lo ads σ := by
  unfold gws ow_W
  refine List.map_congr_left (fun i hi => ?_)
  rw [List.mem_range] at hi
  rw [gz_lt Z lo ads l (by omega), gE_app Z ads l h (by omega)]
theorem gws_push (Z : ow_Z) {lo : Nat} (ads : List Nat) (q : Nat) {σ : ow_S} (h : gr (lo + ads.length) σ) : gws Z lo (ads ++ [q]) σ = gws Z lo ads σ ++ [(q, ow_E (gz Z lo (ads ++ [q])) σ (lo + ads.length))] := by
  rw [← gws_app Z ads [q] h]
  unfold gws ow_W
  rw [List.length_append, List.length_singleton, List.range_succ, List.map_append]
  show _ ++ [(ow_ad (gz Z lo (ads ++ [q])) (lo + ads.length), _)] = _
  rw [gz_new]
theorem gws_at (Z : ow_Z) {lo : Nat} {ads : List Nat} (σ : ow_S) {k : Nat} (h1 : lo ≤ k) (h2 : k < lo + ads.length) : (gws Z lo ads σ)[k - lo]? = some (ow_ad (gz Z lo ads) k, ow_E (gz Z lo ads) σ k) := ow_W_at (gz Z lo ads) σ h1 h2
def g_df (ci : Nat) : List Value := (ow_f ci).map (fun f => if f = 0 then .int 0 else if f = 1 then .long 0 else .null)
def gdf (σ : ow_S) (c : Nat) : Prop := (∀ j, σ.1 c j = 0) ∧ σ.2.1 c = 0 ∧ ∀ j, σ.2.2 c j = none
theorem gdf.sI {σ : ow_S} {k c j : Nat} {v : Int32} (h : gdf σ c) (hk : c ≠ k) : gdf (ow_sI σ k j v) c := ⟨fun z => by rw [g_k _ _ hk]; exact h.1 z, h.2.1, h.2.2⟩
theorem gdf.sR {σ : ow_S} {k c j : Nat} {v : Option Nat} (h : gdf σ c) (hk : c ≠ k) : gdf (ow_sR σ k j v) c := ⟨h.1, h.2.1, fun z => by
  show va_up σ.2.2 k _ c z = none
  rw [va_up_ne _ _ hk]; exact h.2.2 z⟩
theorem gdf.sL {σ : ow_S} {k c : Nat} {v : Int64} (h : gdf σ c) (hk : c ≠ k) : gdf (ow_sL σ k v) c := ⟨h.1, by
  show va_up σ.2.1 k v c = 0
  rw [va_up_ne _ _ hk]; exact h.2.1, h.2.2⟩
theorem gE_obj (Z : ow_Z) {σ : ow_S} {c ci : Nat} (hc : ow_K c = ci) (hci : ci < 10) (h : gdf σ c) : ow_E Z σ c = .inr (ci, g_df ci) := by
  rw [ow_E_obj Z σ hc hci]
  congr 2
  refine List.ext_getElem? (fun i => ?_)
  unfold g_df
  rw [List.getElem?_map, List.getElem?_map, List.getElem?_zipIdx]
  cases (ow_f ci)[i]? with
  | none => rfl
  | some f =>
    show some (ow_v Z σ c (0 + i) f) = some _
    unfold ow_v
    rw [h.1, h.2.1, h.2.2]; rfl
theorem gE_int (Z : ow_Z) {σ : ow_S} {c : Nat} (hc : ow_K c = 10) (h : gdf σ c) : ow_E Z σ c = .inl (Z.2.1 10, ow_n c, .inl (fun _ => 0)) := by
  rw [ow_E_int Z σ hc, show σ.1 c = fun _ => 0 from funext h.1]
theorem gE_ref (Z : ow_Z) {σ : ow_S} {c ci : Nat} (hc : ow_K c = ci) (hci : 10 < ci) (h : gdf σ c) : ow_E Z σ c = .inl (Z.2.1 ci, ow_n c, .inr (.inr (.inr (.inr (fun _ => none))))) := by
  rw [ow_E_ref Z σ hc hci]
  have : (fun j => (σ.2.2 c j).map (ow_ad Z)) = fun _ => none := funext fun j => by rw [h.2.2 j]; rfl
  rw [this]
theorem gr_push {m : Nat} {σ : ow_S} (h : gr m σ) (hd : gdf σ m) : gr (m + 1) σ := by
  intro k j t hk ht
  by_cases e : k = m
  · subst e; rw [hd.2.2 j] at ht; cases ht
  · have := h k j t (by omega) ht; omega
theorem gr_sI {m : Nat} {σ : ow_S} (h : gr m σ) (k j : Nat) (v : Int32) : gr m (ow_sI σ k j v) := h
theorem gr_sL {m : Nat} {σ : ow_S} (h : gr m σ) (k : Nat) (v : Int64) : gr m (ow_sL σ k v) := h
theorem gr_sR {m : Nat} {σ : ow_S} (h : gr m σ) (k j : Nat) {t : Nat} (ht : t < m) : gr m (ow_sR σ k j (some t)) := by
  intro a b u ha hu
  have hu' : va_up σ.2.2 k (va_up (σ.2.2 k) j (some t)) a b = some u := hu
  by_cases e : a = k
  · subst e
    rw [va_up_self] at hu'
    by_cases e2 : b = j
    · subst e2; rw [va_up_self] at hu'; cases hu'; exact ht
    · rw [va_up_ne _ _ e2] at hu'; exact h a b u ha hu'
  · rw [va_up_ne _ _ e] at hu'; exact h a b u ha hu'
theorem gr_sN {m : Nat} {σ : ow_S} (h : gr m σ) (k j : Nat) : gr m (ow_sR σ k j none) := by
  intro a b u ha hu
  have hu' : va_up σ.2.2 k (va_up (σ.2.2 k) j none) a b = some u := hu
  by_cases e : a = k
  · subst e
    rw [va_up_self] at hu'
    by_cases e2 : b = j
    · subst e2; rw [va_up_self] at hu'; cases hu'
    · rw [va_up_ne _ _ e2] at hu'; exact h a b u ha hu'
  · rw [va_up_ne _ _ e] at hu'; exact h a b u ha hu'
theorem gws_set (Z : ow_Z) {lo : Nat} {ads : List Nat} {σ σ' : ow_S} {k : Nat} (h1 : lo ≤ k) (h2 : k < lo + ads.length) (h : ∀ j, j ≠ k → ow_E (gz Z lo ads) σ' j = ow_E (gz Z lo ads) σ j) : (gws Z lo ads σ).set (k - lo) (ow_ad (gz Z lo ads) k, ow_E (gz Z lo ads) σ' k) = gws Z lo ads σ' := ow_W_set (gz Z lo ads) h1 h2 h
theorem gRA_int {s : State} {D : va_G} {cl : List vw_C} {t1 t2 : List (ClassId × FieldType)} {c1 c2 : ClassId} (h : va_K D cl ((c1, .int) :: t1 ++ (c2, .int) :: t2) s) : c2 = c1 := by
  have a : va_RA s c1 .int := (h.2 0 _ rfl).2
  have b : va_RA s c2 .int := (h.2 (t1.length + 1) (c2, .int) (by
    rw [List.getElem?_append_right (by rw [List.length_cons]; exact Nat.le_refl _), List.length_cons, Nat.sub_self]; rfl)).2
  exact Option.some.inj (Eq.trans b.symm a)
theorem gRA_ref {s : State} {D : va_G} {cl : List vw_C} {ts : List (ClassId × FieldType)} {C : String} {k : Nat} {c1 c2 : ClassId} (h : va_K D cl (ts ++ [(c2, .object C)]) s) (hk : ts[k]? = some (c1, .object C)) : c2 = c1 := by
  obtain ⟨-, -, -, -, -, a⟩ := (h.2 k (c1, .object C) (by rw [List.getElem?_append_left (List.getElem?_eq_some_iff.mp hk).1]; exact hk)).2
  obtain ⟨-, -, -, -, -, b⟩ := (h.2 ts.length (c2, .object C) (by rw [List.getElem?_append_right (Nat.le_refl _), Nat.sub_self]; rfl)).2
  exact Option.some.inj (b.symm.trans a)
section OWG
variable {p : Program} {l : Launch} {e : Env} {R : Room} {s : State} {m : MethodId} {args : Array Value} {below : List Frame} {meth : Method} {c : Code} {H : Heap} {locs : List Loc} {cells slots : Nat} {Q : State → Prop}
variable {cc : ByteArray} {pc : Nat} {ls : Array Slot} {rest st0 : List Value} {Z : ow_Z} {A : Nat → Prop} {lo : Nat} {ads : List Nat} {σ : ow_S}
variable {own C : String} {T : u_T} {N ci index k : Nat} {Ts : List Cond}
theorem g_new (hexec : p.tables.exec = Jvm.exec) (hb : c.code = cc) (hts : ∀ w ∈ Ts, w.before args s = true) (hin : ∀ w ∈ u_ws C T N, w ∈ Ts) (ty : Nat → FieldType) (hty : ∀ k, k < N → parseFieldDescriptor (T k).2.2.1 = some (ty k)) (hown : s.vm.findClass own = some m.cls) (hcl : (Cond.classLink own index C).before args s = true) (hinst : (Cond.instantiable C N).before args s = true) (hini : (Cond.initialized C).before args s = true)
    (hK : va_K Z.1 vwCl (ow_ty Z) s) (hW : gW Z A lo ads σ s H locs) (hA : ∀ q, s.heap.size ≤ q → A q) (hc : vwCl[ci]? = some (C, T, N)) (hci : ci < 10) {n : Nat} (hn : lo + ads.length = n) (hk : ow_K n = ci) (hd : gdf σ n) (hfs : ∀ j, j < N → defaultValue (ty j) = vp_V (g_df ci) j) (hcells : cells + 1 ≤ R.cells) (hslots : slots + N ≤ R.slots) (hdg : decode cc pc = .ok (.new index, 3))
    (kk : ∀ (q : Nat) (H : Heap), gW Z A lo (ads ++ [q]) σ s H locs → W p l e R s m args below meth c H locs (cells + 1) (slots + N) Q (F0 m (pc + 3) ls (.ref q :: rest))) : W p l e R s m args below meth c H locs cells slots Q (F0 m pc ls rest) := by
  subst hn
  refine va_new (ci := ci) (fs := g_df ci) (C := C) (T := T) (N := N) hexec hb hts hin ty hty hown hcl hinst hini hK hW.1 hW.2.1 hW.2.2.1 hA hc hfs hcells hslots hdg (fun q H1 hP hD hS => ?_)
  rw [← gE_obj (gz Z lo (ads ++ [q])) hk hci hd, ← gws_push Z ads q hW.2.2.2] at hP hD
  exact kk q H1 ⟨hP, hD, hS, by rw [List.length_append, List.length_singleton]; exact gr_push hW.2.2.2 hd⟩
theorem g_newa (hexec : p.tables.exec = Jvm.exec) (hb : c.code = cc) (harr : (Cond.arrayClass .int).before args s = true)
    (hK : va_K Z.1 vwCl (ow_ty Z) s) (hW : gW Z A lo ads σ s H locs) (hA : ∀ q, s.heap.size ≤ q → A q) {n L : Nat} (hn : lo + ads.length = n) (hk : ow_K n = 10) (hL : ow_n n = L) (hd : gdf σ n) {v : Int32} (hv0 : ¬ v < 0) (hv : v.toNatClampNeg = L) (hbytes : L * componentBytes .int ≤ 536870912) (hcells : cells + 1 ≤ R.cells) (hslots : slots + L ≤ R.slots) (hdg : decode cc pc = .ok (.newarray .int, 2))
    (kk : ∀ (q : Nat) (H : Heap), gW Z A lo (ads ++ [q]) σ s H locs → W p l e R s m args below meth c H locs (cells + 1) (slots + L) Q (F0 m (pc + 2) ls (.ref q :: rest))) : W p l e R s m args below meth c H locs cells slots Q (F0 m pc ls (.int v :: rest)) := by
  subst hn
  refine va_newa (atype := .int) (ty := .int) (a0 := (L, .inl (fun _ => 0))) hexec hb harr rfl hK hW.1 hW.2.1 hW.2.2.1 hA (fun cA => rfl) hv0 hv hbytes hcells hslots hdg (fun q cA H1 hK1 hP hD hS => ?_)
  have ec : cA = Z.2.1 10 := gRA_int (t1 := [(Z.2.1 11, .object "FiftyOneCards$Head"), (Z.2.1 12, .object "FiftyOneCards$Sheet"), (Z.2.1 13, .object "FiftyOneCards$Text")]) (t2 := []) hK1
  subst ec
  have eE : ow_E (gz Z lo (ads ++ [q])) σ (lo + ads.length) = .inl (Z.2.1 10, L, .inl (fun _ => 0)) := by rw [gE_int _ hk hd, hL]; rfl
  rw [← eE, ← gws_push Z ads q hW.2.2.2] at hP hD
  exact kk q H1 ⟨hP, hD, hS, by rw [List.length_append, List.length_singleton]; exact gr_push hW.2.2.2 hd⟩
theorem g_newq (hexec : p.tables.exec = Jvm.exec) (hb : c.code = cc) (hown : s.vm.findClass own = some m.cls) (hcl : (Cond.classLink own index C).before args s = true) (hover : va_AO C s)
    (hK : va_K Z.1 vwCl (ow_ty Z) s) (hW : gW Z A lo ads σ s H locs) (hA : ∀ q, s.heap.size ≤ q → A q) {n L : Nat} (hn : lo + ads.length = n) (hk : ow_K n = ci) (hci : 10 < ci) (hC : (ow_ty Z)[ci - 10]? = some (Z.2.1 ci, .object C)) (hL : ow_n n = L) (hd : gdf σ n) {v : Int32} (hv0 : ¬ v < 0) (hv : v.toNatClampNeg = L) (hbytes : L * 4 ≤ 536870912) (hcells : cells + 1 ≤ R.cells) (hslots : slots + L ≤ R.slots) (hdg : decode cc pc = .ok (.anewarray index, 3))
    (kk : ∀ (q : Nat) (H : Heap), gW Z A lo (ads ++ [q]) σ s H locs → W p l e R s m args below meth c H locs (cells + 1) (slots + L) Q (F0 m (pc + 3) ls (.ref q :: rest))) : W p l e R s m args below meth c H locs cells slots Q (F0 m pc ls (.int v :: rest)) := by
  subst hn
  refine va_newq (C := C) hexec hb hown hcl hover hK hW.1 hW.2.1 hW.2.2.1 hA hv0 hv hbytes hcells hslots hdg (fun q cA H1 hK1 hP hD hS => ?_)
  have ec : cA = Z.2.1 ci := gRA_ref hK1 hC
  subst ec
  have eE : ow_E (gz Z lo (ads ++ [q])) σ (lo + ads.length) = .inl (Z.2.1 ci, L, .inr (.inr (.inr (.inr (fun _ => none))))) := by rw [gE_ref _ hk hci hd, hL]; rfl
  rw [← eE, ← gws_push Z ads q hW.2.2.2] at hP hD
  exact kk q H1 ⟨hP, hD, hS, by rw [List.length_append, List.length_singleton]; exact gr_push hW.2.2.2 hd⟩
/-- a field of an own cell, final or not -/
theorem g_put (hexec : p.tables.exec = Jvm.exec) (hb : c.code = cc) (hts : ∀ w ∈ Ts, w.before args s = true) (hown : s.vm.findClass own = some m.cls) (hK : va_K Z.1 vwCl (ow_ty Z) s) (hW : gW Z A lo ads σ s H locs) {h : Nat} (hh : ow_ad (gz Z lo ads) k = h) (h1 : lo ≤ k) (h2 : k < lo + ads.length) (hk : ow_K k = ci) (hci : ci < 10) (hc : vwCl[ci]? = some (C, T, N)) (hin : ∀ w ∈ u_ws C T N, w ∈ Ts) (ty0 : Nat → FieldType) (hty : ∀ k, k < N → parseFieldDescriptor (T k).2.2.1 = some (ty0 k)) (hnm : ∀ a, a < N → ∀ b, b < N → a ≠ b → (T a).2.1 ≠ (T b).2.1) (j : Nat) (hj : j < N) {fk : Nat} (hf : (ow_f ci)[j]? = some fk) (hlink : (Cond.fieldLink own index (T j).1 (T j).2.1 (T j).2.2.1).before args s = true) (hfin : (T j).2.2.2 = false ∨ ((T j).2.2.2 = true ∧ meth.name = "<init>" ∧ (T j).1 = own)) {v : Value} (hn : narrow (ty0 j) v = v) (hfit : fits (ty0 j) v = true) (σ1 : ow_S) (hv : ow_v (gz Z lo ads) σ1 k j fk = v) (ho : ∀ i f, i ≠ j → (ow_f ci)[i]? = some f → ow_v (gz Z lo ads) σ1 k i f = ow_v (gz Z lo ads) σ k i f) (hE : ∀ i, i ≠ k → ow_E (gz Z lo ads) σ1 i = ow_E (gz Z lo ads) σ i) (hg : gr (lo + ads.length) σ1) (hdg : decode cc pc = .ok (.putfield index, 3))
    (kk : ∀ (H : Heap) (locs : List Loc), gW Z A lo ads σ1 s H locs → W p l e R s m args below meth c H locs cells slots Q (F0 m (pc + 3) ls rest)) : W p l e R s m args below meth c H locs cells slots Q (F0 m pc ls (v :: .ref h :: rest)) := by
  subst hh
  have he : (gws Z lo ads σ)[k - lo]? = some (ow_ad (gz Z lo ads) k, .inr (ci, (ow_f ci).zipIdx.map (fun q => ow_v (gz Z lo ads) σ k q.2 q.1))) := by rw [gws_at Z σ h1 h2, ow_E_obj _ σ hk hci]
  have hlen : j < ((ow_f ci).zipIdx.map (fun q => ow_v (gz Z lo ads) σ k q.2 q.1)).length := by rw [List.length_map, List.length_zipIdx]; exact (List.getElem?_eq_some_iff.mp hf).1
  have fin : ∀ (H1 : Heap) (locs1 : List Loc), va_P Z.1 vwCl ((gws Z lo ads σ).set (k - lo) (ow_ad (gz Z lo ads) k, .inr (ci, ((ow_f ci).zipIdx.map (fun q => ow_v (gz Z lo ads) σ k q.2 q.1)).set j v))) H1 → va_D A ((gws Z lo ads σ).set (k - lo) (ow_ad (gz Z lo ads) k, .inr (ci, ((ow_f ci).zipIdx.map (fun q => ow_v (gz Z lo ads) σ k q.2 q.1)).set j v))) → va_S A s.heap H1 locs1 → W p l e R s m args below meth c H1 locs1 cells slots Q (F0 m (pc + 3) ls rest) := by
    intro H1 locs1 hP hD hS
    rw [ow_fs_set (gz Z lo ads) σ σ1 k hf hv ho, ← ow_E_obj (gz Z lo ads) σ1 hk hci, gws_set Z h1 h2 hE] at hP hD
    exact kk H1 locs1 ⟨hP, hD, hS, hg⟩
  rcases hfin with hfin | ⟨hfin, hin2, hdecl⟩
  · exact va_put (D := Z.1) (ci := ci) hexec hb hts hin ty0 hty hnm hown hK hW.1 hW.2.1 hW.2.2.1 (k - lo) he hc j hj hlink (fun _ h9 => h9) hfin (hty j hj) hn hfit hlen hdg fin
  · exact va_putF (D := Z.1) (ci := ci) hexec hb hts hin ty0 hty hnm hown hK hW.1 hW.2.1 hW.2.2.1 (k - lo) he hc j hj hlink (fun _ h9 => h9) hfin hin2 hdecl (hty j hj) hn hfit hlen hdg fin
theorem g_putI (hexec : p.tables.exec = Jvm.exec) (hb : c.code = cc) (hts : ∀ w ∈ Ts, w.before args s = true) (hown : s.vm.findClass own = some m.cls) (hK : va_K Z.1 vwCl (ow_ty Z) s) (hW : gW Z A lo ads σ s H locs) {h : Nat} (hh : ow_ad (gz Z lo ads) k = h) (h1 : lo ≤ k) (h2 : k < lo + ads.length) (hk : ow_K k = ci) (hci : ci < 10) (hc : vwCl[ci]? = some (C, T, N)) (hin : ∀ w ∈ u_ws C T N, w ∈ Ts) (ty0 : Nat → FieldType) (hty : ∀ k, k < N → parseFieldDescriptor (T k).2.2.1 = some (ty0 k)) (hnm : ∀ a, a < N → ∀ b, b < N → a ≠ b → (T a).2.1 ≠ (T b).2.1) (j : Nat) (hj : j < N) (hf : (ow_f ci)[j]? = some 0) (hlink : (Cond.fieldLink own index (T j).1 (T j).2.1 (T j).2.2.1).before args s = true) (hfin : (T j).2.2.2 = false) {v : Int32} (hn : narrow (ty0 j) (.int v) = .int v) (hfit : fits (ty0 j) (.int v) = true) (hdg : decode cc pc = .ok (.putfield index, 3))
    (kk : ∀ (H : Heap) (locs : List Loc), gW Z A lo ads (ow_sI σ k j v) s H locs → W p l e R s m args below meth c H locs cells slots Q (F0 m (pc + 3) ls rest)) : W p l e R s m args below meth c H locs cells slots Q (F0 m pc ls (.int v :: .ref h :: rest)) :=
  g_put hexec hb hts hown hK hW hh h1 h2 hk hci hc hin ty0 hty hnm j hj hf hlink (Or.inl hfin) hn hfit (ow_sI σ k j v) (ow_v_sI _ σ k j v) (fun i f hi _ => ow_v_sI_ne _ σ v hi) (fun i hi => ow_E_sI _ σ v hi) (gr_sI hW.2.2.2 k j v) hdg kk
theorem g_putR (hexec : p.tables.exec = Jvm.exec) (hb : c.code = cc) (hts : ∀ w ∈ Ts, w.before args s = true) (hown : s.vm.findClass own = some m.cls) (hK : va_K Z.1 vwCl (ow_ty Z) s) (hW : gW Z A lo ads σ s H locs) {h q : Nat} (hh : ow_ad (gz Z lo ads) k = h) (h1 : lo ≤ k) (h2 : k < lo + ads.length) (hk : ow_K k = ci) (hci : ci < 10) (hc : vwCl[ci]? = some (C, T, N)) (hin : ∀ w ∈ u_ws C T N, w ∈ Ts) (ty0 : Nat → FieldType) (hty : ∀ k, k < N → parseFieldDescriptor (T k).2.2.1 = some (ty0 k)) (hnm : ∀ a, a < N → ∀ b, b < N → a ≠ b → (T a).2.1 ≠ (T b).2.1) (j : Nat) (hj : j < N) (hf : (ow_f ci)[j]? = some 2) (hlink : (Cond.fieldLink own index (T j).1 (T j).2.1 (T j).2.2.1).before args s = true) (hfin : (T j).2.2.2 = false ∨ ((T j).2.2.2 = true ∧ meth.name = "<init>" ∧ (T j).1 = own)) (t : Nat) (ht : t < lo + ads.length) (hq : ow_ad (gz Z lo ads) t = q) (hn : narrow (ty0 j) (.ref q) = .ref q) (hfit : fits (ty0 j) (.ref q) = true) (hdg : decode cc pc = .ok (.putfield index, 3))
    (kk : ∀ (H : Heap) (locs : List Loc), gW Z A lo ads (ow_sR σ k j (some t)) s H locs → W p l e R s m args below meth c H locs cells slots Q (F0 m (pc + 3) ls rest)) : W p l e R s m args below meth c H locs cells slots Q (F0 m pc ls (.ref q :: .ref h :: rest)) := by
  subst hq
  exact g_put hexec hb hts hown hK hW hh h1 h2 hk hci hc hin ty0 hty hnm j hj hf hlink hfin hn hfit (ow_sR σ k j (some t)) (ow_v_sR _ σ k j t) (fun i f hi _ => ow_v_sR_ne _ σ _ hi) (fun i hi => ow_E_sR _ σ _ hi) (gr_sR hW.2.2.2 k j ht) hdg kk
theorem g_putN (hexec : p.tables.exec = Jvm.exec) (hb : c.code = cc) (hts : ∀ w ∈ Ts, w.before args s = true) (hown : s.vm.findClass own = some m.cls) (hK : va_K Z.1 vwCl (ow_ty Z) s) (hW : gW Z A lo ads σ s H locs) {h : Nat} (hh : ow_ad (gz Z lo ads) k = h) (h1 : lo ≤ k) (h2 : k < lo + ads.length) (hk : ow_K k = ci) (hci : ci < 10) (hc : vwCl[ci]? = some (C, T, N)) (hin : ∀ w ∈ u_ws C T N, w ∈ Ts) (ty0 : Nat → FieldType) (hty : ∀ k, k < N → parseFieldDescriptor (T k).2.2.1 = some (ty0 k)) (hnm : ∀ a, a < N → ∀ b, b < N → a ≠ b → (T a).2.1 ≠ (T b).2.1) (j : Nat) (hj : j < N) (hf : (ow_f ci)[j]? = some 2) (hlink : (Cond.fieldLink own index (T j).1 (T j).2.1 (T j).2.2.1).before args s = true) (hfin : (T j).2.2.2 = false) (hn : narrow (ty0 j) .null = .null) (hfit : fits (ty0 j) .null = true) (hdg : decode cc pc = .ok (.putfield index, 3))
    (kk : ∀ (H : Heap) (locs : List Loc), gW Z A lo ads (ow_sR σ k j none) s H locs → W p l e R s m args below meth c H locs cells slots Q (F0 m (pc + 3) ls rest)) : W p l e R s m args below meth c H locs cells slots Q (F0 m pc ls (.null :: .ref h :: rest)) :=
  g_put hexec hb hts hown hK hW hh h1 h2 hk hci hc hin ty0 hty hnm j hj hf hlink (Or.inl hfin) hn hfit (ow_sR σ k j none) (by simp [ow_v, ow_sR, va_up, va_rf]) (fun i f hi _ => ow_v_sR_ne _ σ _ hi) (fun i hi => ow_E_sR _ σ _ hi) (gr_sN hW.2.2.2 k j) hdg kk
theorem g_putL (hexec : p.tables.exec = Jvm.exec) (hb : c.code = cc) (hts : ∀ w ∈ Ts, w.before args s = true) (hown : s.vm.findClass own = some m.cls) (hK : va_K Z.1 vwCl (ow_ty Z) s) (hW : gW Z A lo ads σ s H locs) {h : Nat} (hh : ow_ad (gz Z lo ads) k = h) (h1 : lo ≤ k) (h2 : k < lo + ads.length) (hk : ow_K k = 2) (hc : vwCl[2]? = some (C, T, N)) (hin : ∀ w ∈ u_ws C T N, w ∈ Ts) (ty0 : Nat → FieldType) (hty : ∀ k, k < N → parseFieldDescriptor (T k).2.2.1 = some (ty0 k)) (hnm : ∀ a, a < N → ∀ b, b < N → a ≠ b → (T a).2.1 ≠ (T b).2.1) (hj : 0 < N) (hlink : (Cond.fieldLink own index (T 0).1 (T 0).2.1 (T 0).2.2.1).before args s = true) (hfin : (T 0).2.2.2 = false) {v : Int64} (hn : narrow (ty0 0) (.long v) = .long v) (hfit : fits (ty0 0) (.long v) = true) (hdg : decode cc pc = .ok (.putfield index, 3))
    (kk : ∀ (H : Heap) (locs : List Loc), gW Z A lo ads (ow_sL σ k v) s H locs → W p l e R s m args below meth c H locs cells slots Q (F0 m (pc + 3) ls rest)) : W p l e R s m args below meth c H locs cells slots Q (F0 m pc ls (.long v :: .ref h :: rest)) :=
  g_put hexec hb hts hown hK hW hh h1 h2 hk (by decide) hc hin ty0 hty hnm 0 hj (fk := 1) rfl hlink (Or.inl hfin) hn hfit (ow_sL σ k v) (by simp [ow_v, ow_sL, va_up]) (fun i f hi hif => by
    cases i with
    | zero => exact absurd rfl hi
    | succ i => simp [ow_f, ow_fl] at hif) (fun i hi => ow_E_sL _ σ v hi) (gr_sL hW.2.2.2 k v) hdg kk
/-- a reference field that holds a cell -/
theorem g_getR (hexec : p.tables.exec = Jvm.exec) (hb : c.code = cc) (hts : ∀ w ∈ Ts, w.before args s = true) (hown : s.vm.findClass own = some m.cls) (hK : va_K Z.1 vwCl (ow_ty Z) s) (hW : gW Z A lo ads σ s H locs) {h : Nat} (hh : ow_ad (gz Z lo ads) k = h) (h1 : lo ≤ k) (h2 : k < lo + ads.length) (hk : ow_K k = ci) (hci : ci < 10) (hc : vwCl[ci]? = some (C, T, N)) (hin : ∀ w ∈ u_ws C T N, w ∈ Ts) (j : Nat) (hj : j < N) (hf : (ow_f ci)[j]? = some 2) (hlink : (Cond.fieldLink own index (T j).1 (T j).2.1 (T j).2.2.1).before args s = true) (t : Nat) (ht : σ.2.2 k j = some t) (hdg : decode cc pc = .ok (.getfield index, 3))
    (kk : W p l e R s m args below meth c H locs cells slots Q (F0 m (pc + 3) ls (.ref (ow_ad (gz Z lo ads) t) :: rest))) : W p l e R s m args below meth c H locs cells slots Q (F0 m pc ls (.ref h :: rest)) := by
  subst hh
  exact va_get (D := Z.1) (ci := ci) hexec hb hts hin hown hK hW.1 (k - lo) (by rw [gws_at Z σ h1 h2, ow_E_obj _ σ hk hci]) hc j hj hlink (fun _ h9 => h9) (by rw [ow_fs_get _ σ k hf, ow_vS ht]) hdg kk
/-- a cell into a row of cells -/
theorem g_ast (hexec : p.tables.exec = Jvm.exec) (hb : c.code = cc) (hK : va_K Z.1 vwCl (ow_ty Z) s) (hW : gW Z A lo ads σ s H locs) {ha hv kv cv L : Nat} (hha : ow_ad (gz Z lo ads) k = ha) (h1 : lo ≤ k) (h2 : k < lo + ads.length) (hk : ow_K k = ci) (hci : 10 < ci) (hhv : ow_ad (gz Z lo ads) kv = hv) (h3 : lo ≤ kv) (h4 : kv < lo + ads.length) (hkv : ow_K kv = cv) (hcv : cv < 10) (hc : vwCl[cv]? = some (C, T, N)) (hC : (ow_ty Z)[ci - 10]? = some (Z.2.1 ci, .object C)) (hL : ow_n k = L) {i : Nat} (hi : i < L) (hL2 : L < 2 ^ 31) (hdg : decode cc pc = .ok (.aastore, 1))
    (kk : ∀ (H : Heap) (locs : List Loc), gW Z A lo ads (ow_sR σ k i (some kv)) s H locs → W p l e R s m args below meth c H locs cells slots Q (F0 m (pc + 1) ls rest)) : W p l e R s m args below meth c H locs cells slots Q (F0 m pc ls (.ref hv :: .int (nI i) :: .ref ha :: rest)) := by
  subst hha; subst hhv; subst hL
  refine va_astq (D := Z.1) (r := (C, T, N)) (cA := Z.2.1 ci) (n := ow_n k) (f := fun j => (σ.2.2 k j).map (ow_ad (gz Z lo ads))) hexec hb hK hW.1 hW.2.1 hW.2.2.1 (k - lo) (ci - 10) (kv - lo) cv (by rw [gws_at Z σ h1 h2, ow_E_ref _ σ hk hci]; rfl) hC (by rw [gws_at Z σ h3 h4, ow_E_obj _ σ hkv hcv]) hc (vp_in_nI hi hL2) hdg (fun H1 locs1 hP hD hS => ?_)
  have e1 : (.inl (Z.2.1 ci, ow_n k, .inr (.inr (.inr (.inr (va_up (fun j => (σ.2.2 k j).map (ow_ad (gz Z lo ads))) (nI i).toNatClampNeg (some (ow_ad (gz Z lo ads) kv))))))) : va_E) = ow_E (gz Z lo ads) (ow_sR σ k i (some kv)) k := by
    rw [ow_E_ref _ _ hk hci, n_cl (by omega)]
    show _ = (.inl (Z.2.1 ci, ow_n k, .inr (.inr (.inr (.inr (fun j => ((ow_sR σ k i (some kv)).2.2 k j).map (ow_ad (gz Z lo ads))))))) : va_E)
    congr 7
    funext j
    show _ = (va_up σ.2.2 k (va_up (σ.2.2 k) i (some kv)) k j).map (ow_ad (gz Z lo ads))
    rw [va_up_self]
    by_cases z : j = i
    · subst z; rw [va_up_self, va_up_self]; rfl
    · rw [va_up_ne _ _ z, va_up_ne _ _ z]
  have hP' : va_P Z.1 vwCl ((gws Z lo ads σ).set (k - lo) (ow_ad (gz Z lo ads) k, ow_E (gz Z lo ads) (ow_sR σ k i (some kv)) k)) H1 := e1 ▸ hP
  have hD' : va_D A ((gws Z lo ads σ).set (k - lo) (ow_ad (gz Z lo ads) k, ow_E (gz Z lo ads) (ow_sR σ k i (some kv)) k)) := e1 ▸ hD
  rw [gws_set Z h1 h2 (fun j hj => ow_E_sR _ σ _ hj)] at hP' hD'
  exact kk H1 locs1 ⟨hP', hD', hS, gr_sR hW.2.2.2 k i h4⟩
/-- a number into a row of numbers -/
theorem g_ist (hexec : p.tables.exec = Jvm.exec) (hb : c.code = cc) (hK : va_K Z.1 vwCl (ow_ty Z) s) (hW : gW Z A lo ads σ s H locs) {ha L : Nat} (hha : ow_ad (gz Z lo ads) k = ha) (h1 : lo ≤ k) (h2 : k < lo + ads.length) (hk : ow_K k = 10) (hL : ow_n k = L) {i : Nat} {x v : Int32} (hx : x = nI i) (hi : i < L) (hL2 : L < 2 ^ 31) (hdg : decode cc pc = .ok (.iastore, 1))
    (kk : ∀ (H : Heap) (locs : List Loc), gW Z A lo ads (ow_sI σ k i v) s H locs → W p l e R s m args below meth c H locs cells slots Q (F0 m (pc + 1) ls rest)) : W p l e R s m args below meth c H locs cells slots Q (F0 m pc ls (.int v :: .int x :: .ref ha :: rest)) := by
  subst hha; subst hL; subst hx
  refine va_iast (D := Z.1) (cA := Z.2.1 10) (f := σ.1 k) hexec hb hK hW.1 hW.2.1 hW.2.2.1 (k - lo) 0 (by rw [gws_at Z σ h1 h2, ow_E_int _ σ hk]; rfl) rfl (vp_in_nI hi hL2) hdg (fun H1 locs1 hP hD hS => ?_)
  have e1 : (.inl (Z.2.1 10, ow_n k, .inl (upd (σ.1 k) (nI i).toNatClampNeg v)) : va_E) = ow_E (gz Z lo ads) (ow_sI σ k i v) k := by
    rw [ow_E_int _ _ hk, n_cl (by omega)]
    show _ = (.inl (Z.2.1 10, ow_n k, .inl ((ow_sI σ k i v).1 k)) : va_E)
    rw [g_row]
  have hP' : va_P Z.1 vwCl ((gws Z lo ads σ).set (k - lo) (ow_ad (gz Z lo ads) k, ow_E (gz Z lo ads) (ow_sI σ k i v) k)) H1 := e1 ▸ hP
  have hD' : va_D A ((gws Z lo ads σ).set (k - lo) (ow_ad (gz Z lo ads) k, ow_E (gz Z lo ads) (ow_sI σ k i v) k)) := e1 ▸ hD
  rw [gws_set Z h1 h2 (fun j hj => ow_E_sI _ σ v hj)] at hP' hD'
  exact kk H1 locs1 ⟨hP', hD', hS, gr_sI hW.2.2.2 k i v⟩
/-- what a constructor wants and leaves -/
def gB (Z : ow_Z) (lo : Nat) (ads : List Nat) (σ : ow_S) (sz : Nat) (U : State) : Prop := U.heap.size = sz ∧ va_P Z.1 vwCl (gws Z lo ads σ) U.heap ∧ va_D (fun _ => True) (gws Z lo ads σ) ∧ ow_Gv Z U ∧ gr (lo + ads.length) σ
def gA (Z : ow_Z) (lo : Nat) (ads : List Nat) (σ : ow_S) (sz : Nat) : Nat → Prop := va_A (gws Z lo ads σ) sz
def gQ (Z : ow_Z) (lo : Nat) (ads : List Nat) (σ σ' : ow_S) (n sz : Nat) : Array Value → State → Outcome → State → Prop := va_Qv (fun b : List Nat => b.length = n) (fun b t => va_P Z.1 vwCl (gws Z lo (ads ++ b) σ') t.heap ∧ va_D (gA Z lo ads σ sz) (gws Z lo (ads ++ b) σ') ∧ gr (lo + ads.length + n) σ') (gA Z lo ads σ sz)
theorem gB_begin {sz : Nat} (h : gB Z lo ads σ sz s) : (∀ q, s.heap.size ≤ q → gA Z lo ads σ sz q) ∧ ow_Gv Z s ∧ gW Z (gA Z lo ads σ sz) lo ads σ s s.heap [] := by
  obtain ⟨h1, h2, h3, h4, h5⟩ := h
  refine ⟨fun q hq => Or.inr (by omega), h4, h2, ?_, va_S.rf, h5⟩
  exact h3.self
theorem g_pre {h : Nat} (hG : ow_Gv Z s) (hW : gW Z A lo ads σ s H locs) : PreS s H (va_Pc [.ref h] (gB Z lo ads σ H.size)) [.ref h] :=
  ⟨fun a U g mk q => ⟨q.1, q.2.1, q.2.2.1, q.2.2.2.1, ow_Gv.same (s := U) (U := U.calling g mk a) rfl q.2.2.2.2.1, q.2.2.2.2.2⟩, fun U hU hWm => ⟨rfl, by rw [hU], by rw [hU]; exact hW.1, hW.2.1.weaken (fun _ _ _ _ => trivial), hG.pass hWm, hW.2.2.2⟩⟩
theorem g_call {n ms : Nat} {σ' : ow_S} {a : Array Value} (hr : va_Run p l e R s m args below meth c H locs cells slots n ms (F0 m pc ls st0) rest (gQ Z lo ads σ σ' n H.size a) (gA Z lo ads σ H.size)) (hW : gW Z A lo ads σ s H locs) (hA : ∀ q, s.heap.size ≤ q → A q)
    (kk : ∀ (b : List Nat) (H : Heap) (locs : List Loc), b.length = n → gW Z A lo (ads ++ b) σ' s H locs → W p l e R s m args below meth c H locs (cells + n) (slots + ms) Q (F0 m (pc + 3) ls rest)) : W p l e R s m args below meth c H locs cells slots Q (F0 m pc ls st0) := by
  have hF : ∀ q, gA Z lo ads σ H.size q → A q := by
    rintro q (⟨k, e, h⟩ | h)
    · exact hW.2.1.2 k _ h
    · exact hA q (Nat.le_trans hW.2.2.1.1 h)
  refine va_callv hr hW.2.2.1 (fun q _ h => hF q h) hF (fun b t H1 locs1 ht hvm hw hB _ _ hS => ?_)
  obtain ⟨hP, hD, hg⟩ := hB
  rw [ht] at hP
  exact kk b H1 locs1 hw ⟨hP, hD.weaken (fun k q _ h => hF _ h), hS, by rw [List.length_append, hw, ← Nat.add_assoc]; exact hg⟩
theorem g_vret {n ms : Nat} {σ' : ow_S} {b : List Nat} {sz : Nat} (hexec : p.tables.exec = Jvm.exec) (hb : c.code = cc) (hr : meth.sig.returnType = none) (hW : gW Z (gA Z lo ads σ sz) lo (ads ++ b) σ' s H locs) (hn : b.length = n) (hdg : decode cc pc = .ok (.return_, 1)) (hlocks : meth.locks = false) : W p l e R s m args below meth c H locs n ms (MQ below (gQ Z lo ads σ σ' n sz) args s n ms (gA Z lo ads σ sz)) (F0 m pc ls []) :=
  W.vret hexec hb hr (fun t ht hWm => ⟨⟨b, rfl, hn, by rw [ht]; exact hW.1, hW.2.1, by have := hW.2.2.2; rwa [List.length_append, hn, ← Nat.add_assoc] at this⟩, hW.2.2.1.F ht⟩) hW.2.2.1.2.2 hdg hlocks
end OWG
