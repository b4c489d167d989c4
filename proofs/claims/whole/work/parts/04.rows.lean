/-! the world in a method, its contracts, its rows -/
def ow_in (lo n k ci : Nat) : Prop := lo ≤ k ∧ k < lo + n ∧ ow_K k = ci
def ow_A (Z : ow_Z) (lo n : Nat) : Nat → Prop := fun q => ∃ k, lo ≤ k ∧ k < lo + n ∧ ow_ad Z k = q
def ow_B (Z : ow_Z) (lo n : Nat) (σ : ow_S) (U : State) : Prop := ow_G Z (ow_A Z lo n) U U.heap ∧ va_P Z.1 vwCl (ow_W Z lo n σ) U.heap ∧ va_D (ow_A Z lo n) (ow_W Z lo n σ) ∧ ow_Ok lo n σ.2.2
def ow_C (Z : ow_Z) (lo n : Nat) (σ : ow_S) (t : State) : Prop := va_P Z.1 vwCl (ow_W Z lo n σ) t.heap ∧ ow_Ok lo n σ.2.2
def ow_Qi (Z : ow_Z) (lo n : Nat) (r : Int32) (σ : ow_S) : Array Value → State → Outcome → State → Prop := va_Qi (fun a (_ : Unit) => a = r) (fun _ t => ow_C Z lo n σ t) (ow_A Z lo n)
def ow_Qz (Z : ow_Z) (lo n : Nat) (r : Int32) (σ : ow_S) : Array Value → State → Outcome → State → Prop := va_Qi (fun a (_ : Unit) => a = r ∧ (a = 0 ∨ a = 1)) (fun _ t => ow_C Z lo n σ t) (ow_A Z lo n)
def ow_Ql (Z : ow_Z) (lo n : Nat) (r : Int64) (σ : ow_S) : Array Value → State → Outcome → State → Prop := va_Ql (fun a (_ : Unit) => a = r) (fun _ t => ow_C Z lo n σ t) (ow_A Z lo n)
def ow_Qv (Z : ow_Z) (lo n : Nat) (σ : ow_S) : Array Value → State → Outcome → State → Prop := va_Qv (fun (_ : Unit) => True) (fun _ t => ow_C Z lo n σ t) (ow_A Z lo n)
def ow_Qr (Z : ow_Z) (lo n ci : Nat) (r : Nat) (σ : ow_S) : Array Value → State → Outcome → State → Prop := va_Qr (fun (_ : Unit) => True) (fun _ a t => a = ow_ad Z r ∧ ow_in lo n r ci ∧ ow_C Z lo n σ t) (ow_A Z lo n)
def ow_Pc (Z : ow_Z) (lo n : Nat) (av : List Value) (σ : ow_S) : Array Value → State → Prop := va_Pc av (ow_B Z lo n σ)
def ow_Wd (Z : ow_Z) (lo n : Nat) (σ : ow_S) (s : State) (H : Heap) (locs : List Loc) : Prop := va_P Z.1 vwCl (ow_W Z lo n σ) H ∧ va_D (ow_A Z lo n) (ow_W Z lo n σ) ∧ va_S (ow_A Z lo n) s.heap H locs ∧ ow_Ok lo n σ.2.2
theorem ow_begin {Z : ow_Z} {lo n : Nat} {σ : ow_S} {s : State} (h : ow_B Z lo n σ s) : ow_G Z (ow_A Z lo n) s s.heap ∧ ow_Wd Z lo n σ s s.heap [] := ⟨h.1, h.2.1, h.2.2.1, va_S.rf, h.2.2.2⟩
theorem ow_blind (Z : ow_Z) (lo n : Nat) (σ : ow_S) (av : List Value) : FrameBlind (ow_Pc Z lo n av σ) := fun a U g mk h => ⟨h.1, ow_G.same (s := U) (U := U.calling g mk a) rfl rfl h.2.1, h.2.2.1, h.2.2.2.1, h.2.2.2.2⟩
theorem ow_preS {Z : ow_Z} {lo n : Nat} {σ : ow_S} {s : State} {H : Heap} {locs : List Loc} {As : List Value} (hG : ow_G Z (ow_A Z lo n) s s.heap) (hW : ow_Wd Z lo n σ s H locs) : PreS s H (ow_Pc Z lo n As σ) As :=
  ⟨ow_blind Z lo n σ As, fun U hU hWm => ⟨rfl, hG.pass hW.2.2.1 hWm hU, by rw [hU]; exact hW.1, hW.2.1, hW.2.2.2⟩⟩
theorem ow_preV {Z : ow_Z} {lo n : Nat} {σ : ow_S} {s : State} {H : Heap} {locs : List Loc} {As : List Value} {k ci : Nat} {C : String} {T : u_T} {N : Nat} (hG : ow_G Z (ow_A Z lo n) s s.heap) (hW : ow_Wd Z lo n σ s H locs) (hk : ow_in lo n k ci) (hci : ci < 10) (hc : vwCl[ci]? = some (C, T, N)) : PreV s H C (ow_ad Z k) (ow_Pc Z lo n (.ref (ow_ad Z k) :: As) σ) As :=
  ⟨ow_blind Z lo n σ _, va_recv hG.1.1 hW.1 hc (by rw [ow_W_at Z σ hk.1 hk.2.1, ow_E_obj Z σ hk.2.2 hci]), fun U hU hWm => ⟨rfl, hG.pass hW.2.2.1 hWm hU, by rw [hU]; exact hW.1, hW.2.1, hW.2.2.2⟩⟩
theorem ow_preK {Z : ow_Z} {lo n : Nat} {σ : ow_S} {s : State} {H : Heap} {locs : List Loc} {As : List Value} {i : Nat} (hG : ow_G Z (ow_A Z lo n) s s.heap) (hW : ow_Wd Z lo n σ s H locs) (hi : i < 13) : PreV s H "java/lang/String" (ow_adK Z i) (ow_Pc Z lo n (.ref (ow_adK Z i) :: As) σ) As :=
  ⟨ow_blind Z lo n σ _, vk_recv hG.2.1 hi hW.2.2.1, fun U hU hWm => ⟨rfl, hG.pass hW.2.2.1 hWm hU, by rw [hU]; exact hW.1, hW.2.1, hW.2.2.2⟩⟩
theorem ow_Wd.in_ad {Z : ow_Z} {lo n : Nat} {k ci : Nat} (hk : ow_in lo n k ci) : ow_A Z lo n (ow_ad Z k) := ⟨k, hk.1, hk.2.1, rfl⟩
section OWR
variable {p : Program} {l : Launch} {e : Env} {R : Room} {s : State} {m : MethodId} {args : Array Value} {below : List Frame} {meth : Method} {c : Code} {H : Heap} {locs : List Loc} {cells slots : Nat} {Q : State → Prop}
variable {cc : ByteArray} {pc : Nat} {ls : Array Slot} {rest st0 : List Value} {a : Array Value} {Z : ow_Z} {lo n : Nat} {σ σ' : ow_S}
theorem ow_calli {r : Int32} (hr : va_Run p l e R s m args below meth c H locs 0 0 0 0 (F0 m pc ls st0) rest (ow_Qi Z lo n r σ' a) (ow_A Z lo n)) (hW : ow_Wd Z lo n σ s H locs)
    (kk : ∀ (H : Heap) (locs : List Loc), ow_Wd Z lo n σ' s H locs → W p l e R s m args below meth c H locs 0 0 Q (F0 m (pc + 3) ls (.int r :: rest))) : W p l e R s m args below meth c H locs 0 0 Q (F0 m pc ls st0) := by
  refine va_calli hr hW.2.2.1 (fun q _ h => h) (fun q h => h) (fun r1 u t H1 locs1 ht hvm hw hB _ _ hS => ?_)
  subst hw
  exact kk H1 locs1 ⟨by rw [← ht]; exact hB.1, ow_D_same hW.2.1, hS, hB.2⟩
theorem ow_callz {r : Int32} (hr : va_Run p l e R s m args below meth c H locs 0 0 0 0 (F0 m pc ls st0) rest (ow_Qz Z lo n r σ' a) (ow_A Z lo n)) (hW : ow_Wd Z lo n σ s H locs)
    (kk : (r = 0 ∨ r = 1) → ∀ (H : Heap) (locs : List Loc), ow_Wd Z lo n σ' s H locs → W p l e R s m args below meth c H locs 0 0 Q (F0 m (pc + 3) ls (.int r :: rest))) : W p l e R s m args below meth c H locs 0 0 Q (F0 m pc ls st0) := by
  refine va_calli hr hW.2.2.1 (fun q _ h => h) (fun q h => h) (fun r1 u t H1 locs1 ht hvm hw hB _ _ hS => ?_)
  obtain ⟨rfl, h01⟩ := hw
  exact kk h01 H1 locs1 ⟨by rw [← ht]; exact hB.1, ow_D_same hW.2.1, hS, hB.2⟩
theorem ow_calll {r : Int64} (hr : va_Run p l e R s m args below meth c H locs 0 0 0 0 (F0 m pc ls st0) rest (ow_Ql Z lo n r σ' a) (ow_A Z lo n)) (hW : ow_Wd Z lo n σ s H locs)
    (kk : ∀ (H : Heap) (locs : List Loc), ow_Wd Z lo n σ' s H locs → W p l e R s m args below meth c H locs 0 0 Q (F0 m (pc + 3) ls (.long r :: rest))) : W p l e R s m args below meth c H locs 0 0 Q (F0 m pc ls st0) := by
  refine va_calll hr hW.2.2.1 (fun q _ h => h) (fun q h => h) (fun r1 u t H1 locs1 ht hvm hw hB _ _ hS => ?_)
  subst hw
  exact kk H1 locs1 ⟨by rw [← ht]; exact hB.1, ow_D_same hW.2.1, hS, hB.2⟩
theorem ow_callv (hr : va_Run p l e R s m args below meth c H locs 0 0 0 0 (F0 m pc ls st0) rest (ow_Qv Z lo n σ' a) (ow_A Z lo n)) (hW : ow_Wd Z lo n σ s H locs)
    (kk : ∀ (H : Heap) (locs : List Loc), ow_Wd Z lo n σ' s H locs → W p l e R s m args below meth c H locs 0 0 Q (F0 m (pc + 3) ls rest)) : W p l e R s m args below meth c H locs 0 0 Q (F0 m pc ls st0) := by
  refine va_callv hr hW.2.2.1 (fun q _ h => h) (fun q h => h) (fun u t H1 locs1 ht hvm hw hB _ _ hS => ?_)
  exact kk H1 locs1 ⟨by rw [← ht]; exact hB.1, ow_D_same hW.2.1, hS, hB.2⟩
theorem ow_callr {r ci : Nat} (hr : va_Run p l e R s m args below meth c H locs 0 0 0 0 (F0 m pc ls st0) rest (ow_Qr Z lo n ci r σ' a) (ow_A Z lo n)) (hW : ow_Wd Z lo n σ s H locs)
    (kk : ow_in lo n r ci → ∀ (H : Heap) (locs : List Loc), ow_Wd Z lo n σ' s H locs → W p l e R s m args below meth c H locs 0 0 Q (F0 m (pc + 3) ls (.ref (ow_ad Z r) :: rest))) : W p l e R s m args below meth c H locs 0 0 Q (F0 m pc ls st0) := by
  refine va_callr hr hW.2.2.1 (fun q _ h => h) (fun q h => h) (fun u ra t H1 locs1 ht hvm hw hB _ _ hS => ?_)
  obtain ⟨rfl, hin, hB⟩ := hB
  exact kk hin H1 locs1 ⟨by rw [← ht]; exact hB.1, ow_D_same hW.2.1, hS, hB.2⟩
/-! ends -/
theorem ow_iret {v r : Int32} {σ' : ow_S} (hexec : p.tables.exec = Jvm.exec) (hb : c.code = cc) (hr : meth.sig.returnType = some .int) (hW : ow_Wd Z lo n σ s H locs) (hf : some (v, σ) = some (r, σ')) (hdg : decode cc pc = .ok (.ireturn, 1)) (hlocks : meth.locks = false) : W p l e R s m args below meth c H locs 0 0 (MQ below (ow_Qi Z lo n r σ') args s 0 0 (ow_A Z lo n)) (F0 m pc ls [.int v]) := by
  cases hf
  exact W.iret hexec hb hr (fun t ht hWm => ⟨⟨v, (), rfl, rfl, by rw [ht]; exact hW.1, hW.2.2.2⟩, hW.2.2.1.F ht⟩) hW.2.2.1.2.2 hdg hlocks
theorem ow_zret {v r : Int32} {σ' : ow_S} (hexec : p.tables.exec = Jvm.exec) (hb : c.code = cc) (hr : meth.sig.returnType = some .boolean) (h01 : v = 0 ∨ v = 1) (hW : ow_Wd Z lo n σ s H locs) (hf : some (v, σ) = some (r, σ')) (hdg : decode cc pc = .ok (.ireturn, 1)) (hlocks : meth.locks = false) : W p l e R s m args below meth c H locs 0 0 (MQ below (ow_Qz Z lo n r σ') args s 0 0 (ow_A Z lo n)) (F0 m pc ls [.int v]) := by
  cases hf
  exact W.zret hexec hb hr (by rcases h01 with rfl | rfl <;> rfl) (fun t ht hWm => ⟨⟨v, (), rfl, ⟨rfl, h01⟩, by rw [ht]; exact hW.1, hW.2.2.2⟩, hW.2.2.1.F ht⟩) hW.2.2.1.2.2 hdg hlocks
theorem ow_lret {v r : Int64} {σ' : ow_S} (hexec : p.tables.exec = Jvm.exec) (hb : c.code = cc) (hr : meth.sig.returnType = some .long) (hW : ow_Wd Z lo n σ s H locs) (hf : some (v, σ) = some (r, σ')) (hdg : decode cc pc = .ok (.lreturn, 1)) (hlocks : meth.locks = false) : W p l e R s m args below meth c H locs 0 0 (MQ below (ow_Ql Z lo n r σ') args s 0 0 (ow_A Z lo n)) (F0 m pc ls [.long v]) := by
  cases hf
  exact W.lret hexec hb hr (fun t ht hWm => ⟨⟨v, (), rfl, rfl, by rw [ht]; exact hW.1, hW.2.2.2⟩, hW.2.2.1.F ht⟩) hW.2.2.1.2.2 hdg hlocks
theorem ow_vret {σ' : ow_S} (hexec : p.tables.exec = Jvm.exec) (hb : c.code = cc) (hr : meth.sig.returnType = none) (hW : ow_Wd Z lo n σ s H locs) (hf : some σ = some σ') (hdg : decode cc pc = .ok (.return_, 1)) (hlocks : meth.locks = false) : W p l e R s m args below meth c H locs 0 0 (MQ below (ow_Qv Z lo n σ') args s 0 0 (ow_A Z lo n)) (F0 m pc ls []) := by
  cases hf
  exact W.vret hexec hb hr (fun t ht hWm => ⟨⟨(), rfl, trivial, by rw [ht]; exact hW.1, hW.2.2.2⟩, hW.2.2.1.F ht⟩) hW.2.2.1.2.2 hdg hlocks
theorem ow_aret {v r ci : Nat} {rt : String} {σ' : ow_S} (hexec : p.tables.exec = Jvm.exec) (hb : c.code = cc) (hr : meth.sig.returnType = some (.object rt)) (hW : ow_Wd Z lo n σ s H locs) (hk : ow_in lo n v ci) (hf : some (v, σ) = some (r, σ')) (hdg : decode cc pc = .ok (.areturn, 1)) (hlocks : meth.locks = false) : W p l e R s m args below meth c H locs 0 0 (MQ below (ow_Qr Z lo n ci r σ') args s 0 0 (ow_A Z lo n)) (F0 m pc ls [.ref (ow_ad Z v)]) := by
  cases hf
  exact W.aret hexec hb hr (Or.inl ⟨_, rfl⟩) (Or.inr ⟨_, rfl⟩) (fun t ht hWm => ⟨⟨(), _, rfl, trivial, rfl, hk, by rw [ht]; exact hW.1, hW.2.2.2⟩, hW.2.2.1.F ht⟩) hW.2.2.1.2.2 hdg hlocks
/-! fields -/
variable {own C host : String} {T : u_T} {N ci index k : Nat} {Ts : List Cond}
theorem ow_getV (hexec : p.tables.exec = Jvm.exec) (hb : c.code = cc) (hts : ∀ w ∈ Ts, w.before args s = true) (hown : s.vm.findClass own = some m.cls) (hG : ow_G Z (ow_A Z lo n) s s.heap) (hW : ow_Wd Z lo n σ s H locs) (hk : ow_in lo n k ci) (hci : ci < 10) (hc : vwCl[ci]? = some (C, T, N)) (hin : ∀ w ∈ u_ws C T N, w ∈ Ts) (j : Nat) (hj : j < N) {fk : Nat} (hf : (ow_f ci)[j]? = some fk) (hlink : (Cond.fieldLink own index (T j).1 (T j).2.1 (T j).2.2.1).before args s = true) {v : Value} (hv : ow_v Z σ k j fk = v) (hdg : decode cc pc = .ok (.getfield index, 3))
    (kk : W p l e R s m args below meth c H locs cells slots Q (F0 m (pc + 3) ls (v :: rest))) : W p l e R s m args below meth c H locs cells slots Q (F0 m pc ls (.ref (ow_ad Z k) :: rest)) :=
  va_get (D := Z.1) (ci := ci) hexec hb hts hin hown hG.1.1 hW.1 (k - lo) (by rw [ow_W_at Z σ hk.1 hk.2.1, ow_E_obj Z σ hk.2.2 hci]) hc j hj hlink (fun _ h9 => h9) (by rw [ow_fs_get Z σ k hf, hv]) hdg kk
theorem ow_getVN (hexec : p.tables.exec = Jvm.exec) (hb : c.code = cc) (hts : ∀ w ∈ Ts, w.before args s = true) (hown : s.vm.findClass own = some m.cls) (hG : ow_G Z (ow_A Z lo n) s s.heap) (hW : ow_Wd Z lo n σ s H locs) (hk : ow_in lo n k ci) (hci : ci < 10) (hc : vwCl[ci]? = some (C, T, N)) (hin : ∀ w ∈ u_ws C T N, w ∈ Ts) (j : Nat) (hj : j < N) {fk : Nat} (hf : (ow_f ci)[j]? = some fk) (hlink : va_Nw (Cond.fieldLinkNest own index (T j).1 (T j).2.1 (T j).2.2.1 host) s) {v : Value} (hv : ow_v Z σ k j fk = v) (hdg : decode cc pc = .ok (.getfield index, 3))
    (kk : W p l e R s m args below meth c H locs cells slots Q (F0 m (pc + 3) ls (v :: rest))) : W p l e R s m args below meth c H locs cells slots Q (F0 m pc ls (.ref (ow_ad Z k) :: rest)) :=
  va_getN (D := Z.1) (ci := ci) hexec hb hts hin hown hG.1.1 hW.1 (k - lo) (by rw [ow_W_at Z σ hk.1 hk.2.1, ow_E_obj Z σ hk.2.2 hci]) hc j hj (va_Nw.use rfl hlink) (fun _ h9 => h9) (by rw [ow_fs_get Z σ k hf, hv]) hdg kk
/-- a reference that never changes -/
theorem ow_vR (hW : ow_Wd Z lo n σ s H locs) (h1 : lo ≤ k) (h2 : k < lo + n) {j t : Nat} (h : ow_rl k j = some t) : ow_v Z σ k j 2 = .ref (ow_ad Z t) := by
  show va_rf ((σ.2.2 k j).map (ow_ad Z)) = _
  rw [hW.2.2.2.1 k j t h1 h2 h]
  rfl
theorem ow_putV (hexec : p.tables.exec = Jvm.exec) (hb : c.code = cc) (hts : ∀ w ∈ Ts, w.before args s = true) (hown : s.vm.findClass own = some m.cls) (hG : ow_G Z (ow_A Z lo n) s s.heap) (hW : ow_Wd Z lo n σ s H locs) (hk : ow_in lo n k ci) (hci : ci < 10) (hc : vwCl[ci]? = some (C, T, N)) (hin : ∀ w ∈ u_ws C T N, w ∈ Ts) (ty0 : Nat → FieldType) (hty : ∀ k, k < N → parseFieldDescriptor (T k).2.2.1 = some (ty0 k)) (hnm : ∀ a, a < N → ∀ b, b < N → a ≠ b → (T a).2.1 ≠ (T b).2.1) (j : Nat) (hj : j < N) {fk : Nat} (hf : (ow_f ci)[j]? = some fk) (hlink : (Cond.fieldLink own index (T j).1 (T j).2.1 (T j).2.2.1).before args s = true) (hfin : (T j).2.2.2 = false) {v : Value} (hn : narrow (ty0 j) v = v) (hfit : fits (ty0 j) v = true) (σ1 : ow_S) (hv : ow_v Z σ1 k j fk = v) (ho : ∀ i f, i ≠ j → (ow_f ci)[i]? = some f → ow_v Z σ1 k i f = ow_v Z σ k i f) (hE : ∀ i, i ≠ k → ow_E Z σ1 i = ow_E Z σ i) (hO : ow_Ok lo n σ1.2.2) (hdg : decode cc pc = .ok (.putfield index, 3))
    (kk : ∀ (H : Heap) (locs : List Loc), ow_Wd Z lo n σ1 s H locs → W p l e R s m args below meth c H locs cells slots Q (F0 m (pc + 3) ls rest)) : W p l e R s m args below meth c H locs cells slots Q (F0 m pc ls (v :: .ref (ow_ad Z k) :: rest)) := by
  refine va_put (D := Z.1) (ci := ci) hexec hb hts hin ty0 hty hnm hown hG.1.1 hW.1 hW.2.1 hW.2.2.1 (k - lo) (by rw [ow_W_at Z σ hk.1 hk.2.1, ow_E_obj Z σ hk.2.2 hci]) hc j hj hlink (fun _ h9 => h9) hfin (hty j hj) hn hfit (by rw [List.length_map, List.length_zipIdx]; exact (List.getElem?_eq_some_iff.mp hf).1) hdg (fun H1 locs1 hP hD hS => ?_)
  rw [ow_fs_set Z σ σ1 k hf hv ho, ← ow_E_obj Z σ1 hk.2.2 hci, ow_W_set Z hk.1 hk.2.1 hE] at hP hD
  exact kk H1 locs1 ⟨hP, hD, hS, hO⟩
theorem ow_putVN (hexec : p.tables.exec = Jvm.exec) (hb : c.code = cc) (hts : ∀ w ∈ Ts, w.before args s = true) (hown : s.vm.findClass own = some m.cls) (hG : ow_G Z (ow_A Z lo n) s s.heap) (hW : ow_Wd Z lo n σ s H locs) (hk : ow_in lo n k ci) (hci : ci < 10) (hc : vwCl[ci]? = some (C, T, N)) (hin : ∀ w ∈ u_ws C T N, w ∈ Ts) (ty0 : Nat → FieldType) (hty : ∀ k, k < N → parseFieldDescriptor (T k).2.2.1 = some (ty0 k)) (hnm : ∀ a, a < N → ∀ b, b < N → a ≠ b → (T a).2.1 ≠ (T b).2.1) (j : Nat) (hj : j < N) {fk : Nat} (hf : (ow_f ci)[j]? = some fk) (hlink : va_Nw (Cond.fieldLinkNest own index (T j).1 (T j).2.1 (T j).2.2.1 host) s) (hfin : (T j).2.2.2 = false) {v : Value} (hn : narrow (ty0 j) v = v) (hfit : fits (ty0 j) v = true) (σ1 : ow_S) (hv : ow_v Z σ1 k j fk = v) (ho : ∀ i f, i ≠ j → (ow_f ci)[i]? = some f → ow_v Z σ1 k i f = ow_v Z σ k i f) (hE : ∀ i, i ≠ k → ow_E Z σ1 i = ow_E Z σ i) (hO : ow_Ok lo n σ1.2.2) (hdg : decode cc pc = .ok (.putfield index, 3))
    (kk : ∀ (H : Heap) (locs : List Loc), ow_Wd Z lo n σ1 s H locs → W p l e R s m args below meth c H locs cells slots Q (F0 m (pc + 3) ls rest)) : W p l e R s m args below meth c H locs cells slots Q (F0 m pc ls (v :: .ref (ow_ad Z k) :: rest)) := by
  refine va_putN (D := Z.1) (ci := ci) hexec hb hts hin ty0 hty hnm hown hG.1.1 hW.1 hW.2.1 hW.2.2.1 (k - lo) (by rw [ow_W_at Z σ hk.1 hk.2.1, ow_E_obj Z σ hk.2.2 hci]) hc j hj (va_Nw.use rfl hlink) (fun _ h9 => h9) hfin (hty j hj) hn hfit (by rw [List.length_map, List.length_zipIdx]; exact (List.getElem?_eq_some_iff.mp hf).1) hdg (fun H1 locs1 hP hD hS => ?_)
  rw [ow_fs_set Z σ σ1 k hf hv ho, ← ow_E_obj Z σ1 hk.2.2 hci, ow_W_set Z hk.1 hk.2.1 hE] at hP hD
  exact kk H1 locs1 ⟨hP, hD, hS, hO⟩
end OWR
/-- the functional text's own words -/
def ow_ck {α : Type} (b : Prop) [Decidable b] (K : Option α) : Option α := if b then K else none
def ow_let {α β : Type} (v : α) (K : α → β) : β := K v
def ow_cl {α β : Type} (x : Option (α × ow_S)) (K : α → ow_S → Option β) : Option β := match x with | none => none | some r => K r.1 r.2
def ow_cv {β : Type} (x : Option ow_S) (K : ow_S → Option β) : Option β := match x with | none => none | some r => K r
def ow_op {α β : Type} (x : Option α) (A : Option β) (K : α → Option β) : Option β := match x with | none => A | some r => K r
theorem ow_ck_i {α : Type} {b : Prop} [Decidable b] {K : Option α} {y : α} (h : ow_ck b K = some y) : b ∧ K = some y := by
  unfold ow_ck at h
  by_cases hb : b
  · rw [if_pos hb] at h; exact ⟨hb, h⟩
  · rw [if_neg hb] at h; cases h
theorem ow_cl_i {α β : Type} {x : Option (α × ow_S)} {K : α → ow_S → Option β} {y : β} (h : ow_cl x K = some y) : ∃ r σ, x = some (r, σ) ∧ K r σ = some y := by
  cases x with
  | none => cases h
  | some r => exact ⟨r.1, r.2, rfl, h⟩
theorem ow_cv_i {β : Type} {x : Option ow_S} {K : ow_S → Option β} {y : β} (h : ow_cv x K = some y) : ∃ σ, x = some σ ∧ K σ = some y := by
  cases x with
  | none => cases h
  | some r => exact ⟨r, rfl, h⟩
theorem ow_if_t {α : Type} {b : Prop} [Decidable b] {x y : Option α} {z : α} (hb : b) (h : (if b then x else y) = some z) : x = some z := by rwa [if_pos hb] at h
theorem ow_if_f {α : Type} {b : Prop} [Decidable b] {x y : Option α} {z : α} (hb : ¬ b) (h : (if b then x else y) = some z) : y = some z := by rwa [if_neg hb] at h
abbrev ow_bd (i : Int32) (L : Nat) : Prop := ¬ (i < 0 ∨ L ≤ i.toNatClampNeg)
abbrev ow_cb (sp dp n : Int32) (L0 L1 : Nat) : Prop := ¬ sp < 0 ∧ ¬ dp < 0 ∧ ¬ n < 0 ∧ sp.toNatClampNeg + n.toNatClampNeg ≤ L0 ∧ dp.toNatClampNeg + n.toNatClampNeg ≤ L1
def ow_irem (x y : Int32) : Int32 := x - x / y * y
def ow_lrem (x y : Int64) : Int64 := x - x / y * y
def ow_max (x y : Int32) : Int32 := if x < y then y else x
def ow_min (x y : Int32) : Int32 := if y < x then y else x
def ow_ushr (x y : Int32) : Int32 := (x.toUInt32 >>> (y.toUInt32 &&& Int32.toUInt32 31)).toInt32
def ow_ch (w : Nat) (i : Int32) : Int32 := (ow_sb.getD w []).getD i.toNatClampNeg 0 &&& 255
def ow_rg (d : Nat) : Room := { frames := 3 * d + 30, cells := 0, slots := 0, locals := 100 * d + 2000 }
theorem ow_op_n {α β : Type} {o : Option α} {A : Option β} {K : α → Option β} {y : β} (h : ow_op o A K = some y) (c : o = none) : A = some y := by subst c; exact h
theorem ow_op_s {α β : Type} {o : Option α} {A : Option β} {K : α → Option β} {y : β} {t : α} (h : ow_op o A K = some y) (c : o = some t) : K t = some y := by subst c; exact h
theorem ow_op_i {α β : Type} {o : Option α} {K : α → Option β} {y : β} (h : ow_op o none K = some y) : ∃ t, o = some t ∧ K t = some y := by
  cases o with
  | none => cases h
  | some t => exact ⟨t, rfl, h⟩
theorem ow_row_all : ∀ r, r < 56 → ow_K r = 4 → ow_rl r 0 = some (r + 1) ∧ ow_K (r + 1) = 10 ∧ r + 1 < 56 ∧ ow_n (r + 1) = 60 := by decide +kernel
theorem ow_she_all : ∀ r, r < 56 → ow_K r = 5 → ow_rl r 0 = some (r + 1) ∧ ow_K (r + 1) = 10 ∧ r + 1 < 56 ∧ ow_n (r + 1) = 40 := by decide +kernel
theorem ow_tx0_all : ∀ r, r < 56 → ow_K r = 6 → ow_rl r 0 = some (r + 1) ∧ ow_K (r + 1) = 10 ∧ r + 1 < 56 ∧ ow_n (r + 1) = 160 := by decide +kernel
theorem ow_tx1_all : ∀ r, r < 56 → ow_K r = 6 → ow_rl r 1 = some (r + 2) ∧ ow_K (r + 2) = 10 ∧ r + 2 < 56 ∧ ow_n (r + 2) = 3 := by decide +kernel
theorem ow_row {r : Nat} (h : ow_in 0 56 r 4) : ow_rl r 0 = some (r + 1) ∧ ow_in 0 56 (r + 1) 10 ∧ ow_n (r + 1) = 60 := by
  obtain ⟨a, b, c, d⟩ := ow_row_all r (by have := h.2.1; omega) h.2.2
  exact ⟨a, ⟨Nat.zero_le _, by omega, b⟩, d⟩
theorem ow_she {r : Nat} (h : ow_in 0 56 r 5) : ow_rl r 0 = some (r + 1) ∧ ow_in 0 56 (r + 1) 10 ∧ ow_n (r + 1) = 40 := by
  obtain ⟨a, b, c, d⟩ := ow_she_all r (by have := h.2.1; omega) h.2.2
  exact ⟨a, ⟨Nat.zero_le _, by omega, b⟩, d⟩
theorem ow_tx0 {r : Nat} (h : ow_in 0 56 r 6) : ow_rl r 0 = some (r + 1) ∧ ow_in 0 56 (r + 1) 10 ∧ ow_n (r + 1) = 160 := by
  obtain ⟨a, b, c, d⟩ := ow_tx0_all r (by have := h.2.1; omega) h.2.2
  exact ⟨a, ⟨Nat.zero_le _, by omega, b⟩, d⟩
theorem ow_tx1 {r : Nat} (h : ow_in 0 56 r 6) : ow_rl r 1 = some (r + 2) ∧ ow_in 0 56 (r + 2) 10 ∧ ow_n (r + 2) = 3 := by
  obtain ⟨a, b, c, d⟩ := ow_tx1_all r (by have := h.2.1; omega) h.2.2
  exact ⟨a, ⟨Nat.zero_le _, by omega, b⟩, d⟩
theorem ow_ra_all : (∀ j, j < 5 → ow_rl 5 j = some (25 + j) ∧ 25 + j < 56 ∧ ow_K (25 + j) = 0) ∧ (∀ j, j < 6 → ow_rl 9 j = some (30 + 3 * j) ∧ 30 + 3 * j < 56 ∧ ow_K (30 + 3 * j) = 6) ∧ (∀ j, j < 4 → ow_rl 15 j = some (48 + 2 * j) ∧ 48 + 2 * j < 56 ∧ ow_K (48 + 2 * j) = 5) ∧ ∀ j, j < 5 → ow_rl 19 j = some (20 + j) ∧ 20 + j < 56 ∧ ow_K (20 + j) = 0 := by decide +kernel
theorem ow_ra5 : ∀ j, j < 5 → ow_rl 5 j = some (25 + j) ∧ ow_in 0 56 (25 + j) 0 := fun j h => ⟨(ow_ra_all.1 j h).1, Nat.zero_le _, by have := (ow_ra_all.1 j h).2.1; omega, (ow_ra_all.1 j h).2.2⟩
theorem ow_ra9 : ∀ j, j < 6 → ow_rl 9 j = some (30 + 3 * j) ∧ ow_in 0 56 (30 + 3 * j) 6 := fun j h => ⟨(ow_ra_all.2.1 j h).1, Nat.zero_le _, by have := (ow_ra_all.2.1 j h).2.1; omega, (ow_ra_all.2.1 j h).2.2⟩
theorem ow_ra15 : ∀ j, j < 4 → ow_rl 15 j = some (48 + 2 * j) ∧ ow_in 0 56 (48 + 2 * j) 5 := fun j h => ⟨(ow_ra_all.2.2.1 j h).1, Nat.zero_le _, by have := (ow_ra_all.2.2.1 j h).2.1; omega, (ow_ra_all.2.2.1 j h).2.2⟩
theorem ow_ra19 : ∀ j, j < 5 → ow_rl 19 j = some (20 + j) ∧ ow_in 0 56 (20 + j) 0 := fun j h => ⟨(ow_ra_all.2.2.2 j h).1, Nat.zero_le _, by have := (ow_ra_all.2.2.2 j h).2.1; omega, (ow_ra_all.2.2.2 j h).2.2⟩
theorem ow_nwp {Z : ow_Z} {A : Nat → Prop} {s : State} {H : Heap} (hG : ow_G Z A s H) (w : Cond) (h : (decide (w ∈ ow_nw) || decide (w ∈ ow_nw2)) = true) : va_Nw w s := by
  rcases Bool.or_eq_true_iff.mp h with h | h
  · exact hG.1.2.1.1 w (of_decide_eq_true h)
  · exact hG.1.2.1.2 w (of_decide_eq_true h)
theorem ow_vS {Z : ow_Z} {σ : ow_S} {k j t : Nat} (h : σ.2.2 k j = some t) : ow_v Z σ k j 2 = .ref (ow_ad Z t) := by
  show va_rf ((σ.2.2 k j).map (ow_ad Z)) = _
  rw [h]
  rfl
theorem ow_tgt3 {Z : ow_Z} {σ : ow_S} {s : State} {H : Heap} {locs : List Loc} {t : Nat} (hW : ow_Wd Z 0 56 σ s H locs) (h : σ.2.2 7 6 = some t) : ow_in 0 56 t 6 := by
  obtain ⟨a, b⟩ := hW.2.2.2.2 7 t (Or.inl rfl) h
  exact ⟨Nat.zero_le _, by omega, a⟩
theorem ow_tgt7 {Z : ow_Z} {σ : ow_S} {s : State} {H : Heap} {locs : List Loc} {t : Nat} (hW : ow_Wd Z 0 56 σ s H locs) (h : σ.2.2 10 2 = some t) : ow_in 0 56 t 6 := by
  obtain ⟨a, b⟩ := hW.2.2.2.2 10 t (Or.inr rfl) h
  exact ⟨Nat.zero_le _, by omega, a⟩
theorem ow_Ok_R {lo n k j t : Nat} {σ : ow_S} (h : ow_Ok lo n σ.2.2) (hk : (k = 7 ∧ j = 6) ∨ (k = 10 ∧ j = 2)) (ht : ow_in 0 56 t 6) : ow_Ok lo n (ow_sR σ k j (some t)).2.2 := by
  have hrl : ow_rl k j = none := by rcases hk with ⟨rfl, rfl⟩ | ⟨rfl, rfl⟩ <;> decide +kernel
  refine ⟨fun a b c ha hb hc => ?_, fun a b ha hb => ?_⟩
  · show va_up σ.2.2 k (va_up (σ.2.2 k) j (some t)) a b = some c
    by_cases hak : a = k
    · subst hak
      rw [va_up_self]
      by_cases hbj : b = j
      · subst hbj; rw [hrl] at hc; cases hc
      · rw [va_up_ne _ _ hbj]; exact h.1 a b c ha hb hc
    · rw [va_up_ne _ _ hak]; exact h.1 a b c ha hb hc
  · have hb' : va_up σ.2.2 k (va_up (σ.2.2 k) j (some t)) a (if a = 7 then 6 else 2) = some b := hb
    by_cases hak : a = k
    · subst hak
      rw [va_up_self] at hb'
      by_cases hbj : (if a = 7 then 6 else 2) = j
      · rw [hbj, va_up_self] at hb'
        cases hb'
        exact ⟨ht.2.2, by have := ht.2.1; omega⟩
      · rw [va_up_ne _ _ hbj] at hb'; exact h.2 a b ha hb'
    · rw [va_up_ne _ _ hak] at hb'; exact h.2 a b ha hb'
theorem ow_v_sI (Z : ow_Z) (σ : ow_S) (k j : Nat) (v : Int32) : ow_v Z (ow_sI σ k j v) k j 0 = .int v := by
  simp [ow_v, ow_sI, va_up, upd]
theorem ow_v_sI_ne (Z : ow_Z) (σ : ow_S) {k j i f : Nat} (v : Int32) (h : i ≠ j) : ow_v Z (ow_sI σ k j v) k i f = ow_v Z σ k i f := by
  simp [ow_v, ow_sI, va_up, upd, h]
theorem ow_ty_at (Z : ow_Z) {ci : Nat} (h : 10 < ci ∧ ci < 14) : ∃ C, (ow_ty Z)[ci - 10]? = some (Z.2.1 ci, .object C) := by
  rcases (show ci = 11 ∨ ci = 12 ∨ ci = 13 by omega) with rfl | rfl | rfl
  · exact ⟨_, rfl⟩
  · exact ⟨_, rfl⟩
  · exact ⟨_, rfl⟩
section OWS
variable {p : Program} {l : Launch} {e : Env} {R : Room} {s : State} {m : MethodId} {args : Array Value} {below : List Frame} {meth : Method} {c : Code} {H : Heap} {locs : List Loc} {cells slots : Nat} {Q : State → Prop}
variable {cc : ByteArray} {pc : Nat} {ls : Array Slot} {rest st0 : List Value} {a : Array Value} {Z : ow_Z} {lo n : Nat} {σ σ' : ow_S}
variable {own C host : String} {T : u_T} {N ci index k : Nat} {Ts : List Cond} {α : Type} {K : ow_S → Option α} {y : α}
theorem ow_putI (hexec : p.tables.exec = Jvm.exec) (hb : c.code = cc) (hts : ∀ w ∈ Ts, w.before args s = true) (hown : s.vm.findClass own = some m.cls) (hG : ow_G Z (ow_A Z lo n) s s.heap) (hW : ow_Wd Z lo n σ s H locs) (hk : ow_in lo n k ci) (hci : ci < 10) (hc : vwCl[ci]? = some (C, T, N)) (hin : ∀ w ∈ u_ws C T N, w ∈ Ts) (ty0 : Nat → FieldType) (hty : ∀ k, k < N → parseFieldDescriptor (T k).2.2.1 = some (ty0 k)) (hnm : ∀ a, a < N → ∀ b, b < N → a ≠ b → (T a).2.1 ≠ (T b).2.1) (j : Nat) (hj : j < N) (hf : (ow_f ci)[j]? = some 0) (hlink : (Cond.fieldLink own index (T j).1 (T j).2.1 (T j).2.2.1).before args s = true) (hfin : (T j).2.2.2 = false) {v : Int32} (hn : narrow (ty0 j) (.int v) = .int v) (hfit : fits (ty0 j) (.int v) = true) (hfun : ow_let (ow_sI σ k j v) K = some y) (hdg : decode cc pc = .ok (.putfield index, 3))
    (kk : ∀ (σ : ow_S) (H : Heap) (locs : List Loc), K σ = some y → ow_Wd Z lo n σ s H locs → W p l e R s m args below meth c H locs cells slots Q (F0 m (pc + 3) ls rest)) : W p l e R s m args below meth c H locs cells slots Q (F0 m pc ls (.int v :: .ref (ow_ad Z k) :: rest)) :=
  ow_putV hexec hb hts hown hG hW hk hci hc hin ty0 hty hnm j hj hf hlink hfin hn hfit (ow_sI σ k j v) (ow_v_sI Z σ k j v) (fun i f hi _ => ow_v_sI_ne Z σ v hi) (fun i hi => ow_E_sI Z σ v hi) hW.2.2.2 hdg (fun H locs h => kk _ H locs hfun h)
theorem ow_putIN (hexec : p.tables.exec = Jvm.exec) (hb : c.code = cc) (hts : ∀ w ∈ Ts, w.before args s = true) (hown : s.vm.findClass own = some m.cls) (hG : ow_G Z (ow_A Z lo n) s s.heap) (hW : ow_Wd Z lo n σ s H locs) (hk : ow_in lo n k ci) (hci : ci < 10) (hc : vwCl[ci]? = some (C, T, N)) (hin : ∀ w ∈ u_ws C T N, w ∈ Ts) (ty0 : Nat → FieldType) (hty : ∀ k, k < N → parseFieldDescriptor (T k).2.2.1 = some (ty0 k)) (hnm : ∀ a, a < N → ∀ b, b < N → a ≠ b → (T a).2.1 ≠ (T b).2.1) (j : Nat) (hj : j < N) (hf : (ow_f ci)[j]? = some 0) (hlink : va_Nw (Cond.fieldLinkNest own index (T j).1 (T j).2.1 (T j).2.2.1 host) s) (hfin : (T j).2.2.2 = false) {v : Int32} (hn : narrow (ty0 j) (.int v) = .int v) (hfit : fits (ty0 j) (.int v) = true) (hfun : ow_let (ow_sI σ k j v) K = some y) (hdg : decode cc pc = .ok (.putfield index, 3))
    (kk : ∀ (σ : ow_S) (H : Heap) (locs : List Loc), K σ = some y → ow_Wd Z lo n σ s H locs → W p l e R s m args below meth c H locs cells slots Q (F0 m (pc + 3) ls rest)) : W p l e R s m args below meth c H locs cells slots Q (F0 m pc ls (.int v :: .ref (ow_ad Z k) :: rest)) :=
  ow_putVN hexec hb hts hown hG hW hk hci hc hin ty0 hty hnm j hj hf hlink hfin hn hfit (ow_sI σ k j v) (ow_v_sI Z σ k j v) (fun i f hi _ => ow_v_sI_ne Z σ v hi) (fun i hi => ow_E_sI Z σ v hi) hW.2.2.2 hdg (fun H locs h => kk _ H locs hfun h)
theorem ow_putL (hexec : p.tables.exec = Jvm.exec) (hb : c.code = cc) (hts : ∀ w ∈ Ts, w.before args s = true) (hown : s.vm.findClass own = some m.cls) (hG : ow_G Z (ow_A Z lo n) s s.heap) (hW : ow_Wd Z lo n σ s H locs) (hk : ow_in lo n k 2) (hc : vwCl[2]? = some (C, T, N)) (hin : ∀ w ∈ u_ws C T N, w ∈ Ts) (ty0 : Nat → FieldType) (hty : ∀ k, k < N → parseFieldDescriptor (T k).2.2.1 = some (ty0 k)) (hnm : ∀ a, a < N → ∀ b, b < N → a ≠ b → (T a).2.1 ≠ (T b).2.1) (hj : 0 < N) (hlink : (Cond.fieldLink own index (T 0).1 (T 0).2.1 (T 0).2.2.1).before args s = true) (hfin : (T 0).2.2.2 = false) {v : Int64} (hn : narrow (ty0 0) (.long v) = .long v) (hfit : fits (ty0 0) (.long v) = true) (hfun : ow_let (ow_sL σ k v) K = some y) (hdg : decode cc pc = .ok (.putfield index, 3))
    (kk : ∀ (σ : ow_S) (H : Heap) (locs : List Loc), K σ = some y → ow_Wd Z lo n σ s H locs → W p l e R s m args below meth c H locs cells slots Q (F0 m (pc + 3) ls rest)) : W p l e R s m args below meth c H locs cells slots Q (F0 m pc ls (.long v :: .ref (ow_ad Z k) :: rest)) :=
  ow_putV hexec hb hts hown hG hW hk (by decide) hc hin ty0 hty hnm 0 hj (fk := 1) rfl hlink hfin hn hfit (ow_sL σ k v) (by simp [ow_v, ow_sL, va_up]) (fun i f hi hif => by
    cases i with
    | zero => exact absurd rfl hi
    | succ i => simp [ow_f, ow_fl] at hif) (fun i hi => ow_E_sL Z σ v hi) hW.2.2.2 hdg (fun H locs h => kk _ H locs hfun h)
theorem ow_v_sR (Z : ow_Z) (σ : ow_S) (k j t : Nat) : ow_v Z (ow_sR σ k j (some t)) k j 2 = .ref (ow_ad Z t) := by
  simp [ow_v, ow_sR, va_up, va_rf]
theorem ow_v_sR_ne (Z : ow_Z) (σ : ow_S) {k j i f : Nat} (v : Option Nat) (h : i ≠ j) : ow_v Z (ow_sR σ k j v) k i f = ow_v Z σ k i f := by
  simp [ow_v, ow_sR, va_up, h]
theorem ow_putR3 (hexec : p.tables.exec = Jvm.exec) (hb : c.code = cc) (hts : ∀ w ∈ Ts, w.before args s = true) (hown : s.vm.findClass own = some m.cls) (hG : ow_G Z (ow_A Z 0 56) s s.heap) (hW : ow_Wd Z 0 56 σ s H locs) (hc : vwCl[3]? = some (C, T, N)) (hin : ∀ w ∈ u_ws C T N, w ∈ Ts) (ty0 : Nat → FieldType) (hty : ∀ k, k < N → parseFieldDescriptor (T k).2.2.1 = some (ty0 k)) (hnm : ∀ a, a < N → ∀ b, b < N → a ≠ b → (T a).2.1 ≠ (T b).2.1) (hj : 6 < N) {t : Nat} (ht : ow_in 0 56 t 6) (hlink : (Cond.fieldLink own index (T 6).1 (T 6).2.1 (T 6).2.2.1).before args s = true) (hfin : (T 6).2.2.2 = false) (hn : narrow (ty0 6) (.ref (ow_ad Z t)) = .ref (ow_ad Z t)) (hfit : fits (ty0 6) (.ref (ow_ad Z t)) = true) (hfun : ow_let (ow_sR σ 7 6 (some t)) K = some y) (hdg : decode cc pc = .ok (.putfield index, 3))
    (kk : ∀ (σ : ow_S) (H : Heap) (locs : List Loc), K σ = some y → ow_Wd Z 0 56 σ s H locs → W p l e R s m args below meth c H locs cells slots Q (F0 m (pc + 3) ls rest)) : W p l e R s m args below meth c H locs cells slots Q (F0 m pc ls (.ref (ow_ad Z t) :: .ref (ow_ad Z 7) :: rest)) :=
  ow_putV hexec hb hts hown hG hW (show ow_in 0 56 7 3 from ⟨Nat.zero_le _, by decide, rfl⟩) (by decide) hc hin ty0 hty hnm 6 hj (fk := 2) rfl hlink hfin hn hfit (ow_sR σ 7 6 (some t)) (ow_v_sR Z σ 7 6 t) (fun i f hi _ => ow_v_sR_ne Z σ _ hi) (fun i hi => ow_E_sR Z σ _ hi) (ow_Ok_R hW.2.2.2 (Or.inl ⟨rfl, rfl⟩) ht) hdg (fun H locs h => kk _ H locs hfun h)
theorem ow_putR7 (hexec : p.tables.exec = Jvm.exec) (hb : c.code = cc) (hts : ∀ w ∈ Ts, w.before args s = true) (hown : s.vm.findClass own = some m.cls) (hG : ow_G Z (ow_A Z 0 56) s s.heap) (hW : ow_Wd Z 0 56 σ s H locs) (hc : vwCl[7]? = some (C, T, N)) (hin : ∀ w ∈ u_ws C T N, w ∈ Ts) (ty0 : Nat → FieldType) (hty : ∀ k, k < N → parseFieldDescriptor (T k).2.2.1 = some (ty0 k)) (hnm : ∀ a, a < N → ∀ b, b < N → a ≠ b → (T a).2.1 ≠ (T b).2.1) (hj : 2 < N) {t : Nat} (ht : ow_in 0 56 t 6) (hlink : (Cond.fieldLink own index (T 2).1 (T 2).2.1 (T 2).2.2.1).before args s = true) (hfin : (T 2).2.2.2 = false) (hn : narrow (ty0 2) (.ref (ow_ad Z t)) = .ref (ow_ad Z t)) (hfit : fits (ty0 2) (.ref (ow_ad Z t)) = true) (hfun : ow_let (ow_sR σ 10 2 (some t)) K = some y) (hdg : decode cc pc = .ok (.putfield index, 3))
    (kk : ∀ (σ : ow_S) (H : Heap) (locs : List Loc), K σ = some y → ow_Wd Z 0 56 σ s H locs → W p l e R s m args below meth c H locs cells slots Q (F0 m (pc + 3) ls rest)) : W p l e R s m args below meth c H locs cells slots Q (F0 m pc ls (.ref (ow_ad Z t) :: .ref (ow_ad Z 10) :: rest)) :=
  ow_putV hexec hb hts hown hG hW (show ow_in 0 56 10 7 from ⟨Nat.zero_le _, by decide, rfl⟩) (by decide) hc hin ty0 hty hnm 2 hj (fk := 2) rfl hlink hfin hn hfit (ow_sR σ 10 2 (some t)) (ow_v_sR Z σ 10 2 t) (fun i f hi _ => ow_v_sR_ne Z σ _ hi) (fun i hi => ow_E_sR Z σ _ hi) (ow_Ok_R hW.2.2.2 (Or.inr ⟨rfl, rfl⟩) ht) hdg (fun H locs h => kk _ H locs hfun h)
theorem ow_ild {L q : Nat} {i : Int32} (hexec : p.tables.exec = Jvm.exec) (hb : c.code = cc) (hG : ow_G Z (ow_A Z lo n) s s.heap) (hW : ow_Wd Z lo n σ s H locs) (hk : ow_in lo n k 10) (hl : ow_n k = L) (hbd : ow_bd i L) (hq : i.toNatClampNeg = q) (hdg : decode cc pc = .ok (.iaload, 1))
    (kk : W p l e R s m args below meth c H locs cells slots Q (F0 m (pc + 1) ls (.int (σ.1 k q) :: rest))) : W p l e R s m args below meth c H locs cells slots Q (F0 m pc ls (.int i :: .ref (ow_ad Z k) :: rest)) := by
  subst hq; subst hl
  exact va_iald (cA := Z.2.1 10) (f := σ.1 k) hexec hb hG.1.1 hW.1 (k - lo) 0 (by rw [ow_W_at Z σ hk.1 hk.2.1, ow_E_int Z σ hk.2.2]) rfl hbd hdg kk
theorem ow_ist {L q : Nat} {i v : Int32} (hexec : p.tables.exec = Jvm.exec) (hb : c.code = cc) (hG : ow_G Z (ow_A Z lo n) s s.heap) (hW : ow_Wd Z lo n σ s H locs) (hk : ow_in lo n k 10) (hl : ow_n k = L) (hbd : ow_bd i L) (hq : i.toNatClampNeg = q) (hfun : ow_let (ow_sI σ k q v) K = some y) (hdg : decode cc pc = .ok (.iastore, 1))
    (kk : ∀ (σ : ow_S) (H : Heap) (locs : List Loc), K σ = some y → ow_Wd Z lo n σ s H locs → W p l e R s m args below meth c H locs cells slots Q (F0 m (pc + 1) ls rest)) : W p l e R s m args below meth c H locs cells slots Q (F0 m pc ls (.int v :: .int i :: .ref (ow_ad Z k) :: rest)) := by
  subst hq; subst hl
  refine va_iast (cA := Z.2.1 10) (f := σ.1 k) hexec hb hG.1.1 hW.1 hW.2.1 hW.2.2.1 (k - lo) 0 (by rw [ow_W_at Z σ hk.1 hk.2.1, ow_E_int Z σ hk.2.2]) rfl hbd hdg (fun H1 locs1 hP hD hS => ?_)
  have e1 : (.inl (Z.2.1 10, ow_n k, .inl (upd (σ.1 k) i.toNatClampNeg v)) : va_E) = ow_E Z (ow_sI σ k i.toNatClampNeg v) k := by
    rw [ow_E_int Z _ hk.2.2]
    simp [ow_sI, va_up]
  rw [e1, ow_W_set Z hk.1 hk.2.1 (fun j hj => ow_E_sI Z σ v hj)] at hP hD
  exact kk _ H1 locs1 hfun ⟨hP, hD, hS, hW.2.2.2⟩
theorem ow_rld {L : Nat} {i : Int32} {ct : Nat} (f : Nat → Nat) {K : Nat → Option α} (hexec : p.tables.exec = Jvm.exec) (hb : c.code = cc) (hG : ow_G Z (ow_A Z lo n) s s.heap) (hW : ow_Wd Z lo n σ s H locs) (hk : ow_in lo n k ci) (hci : 10 < ci ∧ ci < 14) (hl : ow_n k = L) (hr : ∀ j, j < L → ow_rl k j = some (f j) ∧ ow_in lo n (f j) ct) (hfun : ow_ck (ow_bd i L) (ow_let (f i.toNatClampNeg) K) = some y) (hdg : decode cc pc = .ok (.aaload, 1))
    (kk : ∀ t, K t = some y → ow_in lo n t ct → W p l e R s m args below meth c H locs cells slots Q (F0 m (pc + 1) ls (.ref (ow_ad Z t) :: rest))) : W p l e R s m args below meth c H locs cells slots Q (F0 m pc ls (.int i :: .ref (ow_ad Z k) :: rest)) := by
  obtain ⟨hbd, hfun2⟩ := ow_ck_i hfun
  subst hl
  obtain ⟨C, hC⟩ := ow_ty_at Z hci
  have hlt : i.toNatClampNeg < ow_n k := Nat.not_le.mp fun q => hbd (Or.inr q)
  refine va_aldq (cA := Z.2.1 ci) (C := C) (f := fun j => (σ.2.2 k j).map (ow_ad Z)) hexec hb hG.1.1 hW.1 (k - lo) (ci - 10) (by rw [ow_W_at Z σ hk.1 hk.2.1, ow_E_ref Z σ hk.2.2 hci.1]) hC hbd hdg ?_
  show W p l e R s m args below meth c H locs cells slots Q (F0 m (pc + 1) ls (va_rf ((σ.2.2 k i.toNatClampNeg).map (ow_ad Z)) :: rest))
  rw [hW.2.2.2.1 k _ _ hk.1 hk.2.1 (hr _ hlt).1]
  exact kk _ hfun2 (hr _ hlt).2
theorem ow_copy {k0 k1 L0 L1 : Nat} {sp dp nn : Int32} (hexec : p.tables.exec = Jvm.exec) (hb : c.code = cc) (hml : c.maxLocals = ls.size) (hown : s.vm.findClass own = some m.cls) (hlink : (Cond.methodLink own index arraycopyName).before args s = true) (hnat : (Cond.native arraycopyName).before args s = true) (hstat : (Cond.static arraycopyName).before args s = true) (hini : (Cond.initialized "java/lang/System").before args s = true) (hG : ow_G Z (ow_A Z lo n) s s.heap) (hW : ow_Wd Z lo n σ s H locs) (hk0 : ow_in lo n k0 10) (hl0 : ow_n k0 = L0) (hk1 : ow_in lo n k1 10) (hl1 : ow_n k1 = L1)
    (hfun : ow_ck (ow_cb sp dp nn L0 L1) (ow_let (ow_sA σ k1 (va_cpy (σ.1 k0) (σ.1 k1) sp.toNatClampNeg dp.toNatClampNeg nn.toNatClampNeg)) K) = some y) (hframes : 1 ≤ R.frames) (hlocals : (rest.map fun v => v.category).sum + (nativeFrameWords "java/lang/System" "arraycopy" 5 + 11) ≤ R.locals) (hdg : decode cc pc = .ok (.invokestatic index, 3))
    (kk : ∀ (σ : ow_S) (H : Heap) (locs : List Loc), K σ = some y → ow_Wd Z lo n σ s H locs → W p l e R s m args below meth c H locs cells slots Q (F0 m (pc + 3) ls rest)) : W p l e R s m args below meth c H locs cells slots Q (F0 m pc ls (.int nn :: .int dp :: .ref (ow_ad Z k1) :: .int sp :: .ref (ow_ad Z k0) :: rest)) := by
  obtain ⟨⟨h1, h2, h3, h4, h5⟩, hfun2⟩ := ow_ck_i hfun
  subst hl0; subst hl1
  refine va_copyi (ty := .int) (c0 := Z.2.1 10) (c1 := Z.2.1 10) (f := σ.1 k0) (g := σ.1 k1) hexec hb hml hown hlink hnat hstat hini hG.1.1 hW.1 hW.2.1 hW.2.2.1 (k0 - lo) (k1 - lo) 0 0 (by rw [ow_W_at Z σ hk0.1 hk0.2.1, ow_E_int Z σ hk0.2.2]) (by rw [ow_W_at Z σ hk1.1 hk1.2.1, ow_E_int Z σ hk1.2.2]) rfl rfl rfl h1 h2 h3 h4 h5 (fun _ _ => rfl) hframes hlocals hdg (fun H1 locs1 hP hD hS => ?_)
  have e1 : (.inl (Z.2.1 10, ow_n k1, .inl (va_cpy (σ.1 k0) (σ.1 k1) sp.toNatClampNeg dp.toNatClampNeg nn.toNatClampNeg)) : va_E) = ow_E Z (ow_sA σ k1 (va_cpy (σ.1 k0) (σ.1 k1) sp.toNatClampNeg dp.toNatClampNeg nn.toNatClampNeg)) k1 := by
    rw [ow_E_int Z _ hk1.2.2]
    simp [ow_sA, va_up]
  rw [e1, ow_W_set Z hk1.1 hk1.2.1 (fun j hj => ow_E_sA Z σ _ hj)] at hP hD
  exact kk _ H1 locs1 hfun2 ⟨hP, hD, hS, hW.2.2.2⟩
theorem ow_topi {x : Int32} {K : Int32 → Option α} (hfun : ow_let x K = some y) (kk : ∀ z : Int32, K z = some y → W p l e R s m args below meth c H locs cells slots Q (F0 m pc ls (.int z :: rest))) : W p l e R s m args below meth c H locs cells slots Q (F0 m pc ls (.int x :: rest)) := kk x hfun
theorem ow_topl {x : Int64} {K : Int64 → Option α} (hfun : ow_let x K = some y) (kk : ∀ z : Int64, K z = some y → W p l e R s m args below meth c H locs cells slots Q (F0 m pc ls (.long z :: rest))) : W p l e R s m args below meth c H locs cells slots Q (F0 m pc ls (.long x :: rest)) := kk x hfun
theorem ow_iinc {i nL k : Nat} {nn : Int} {x d : Int32} {lv : List (Nat × Value)} (lv' : Int32 → List (Nat × Value)) {K : Int32 → Option α} (hexec : p.tables.exec = Jvm.exec) (hb : c.code = cc) (hfun : ow_let (x + d) K = some y) (hdg : decode cc pc = .ok (.iinc i nn, 3)) (h : lv_has ls nL lv) (hk : lv[k]? = some (i, .int x)) (hv : Int32.ofInt nn = d) (hn : i < nL) (hl : ∀ z, (i, Value.int z) :: lv.filter (fun q => !(q.1 == i) && !(q.1 + 1 == i && q.2.category == 2)) = lv' z)
    (kk : ∀ z : Int32, K z = some y → ∀ ls' : Array Slot, lv_has ls' nL (lv' z) → W p l e R s m args below meth c H locs cells slots Q (F0 m (pc + 3) ls' rest)) : W p l e R s m args below meth c H locs cells slots Q (F0 m pc ls rest) :=
  lv_iinc (v := x + d) hexec hb hdg h hk (by rw [hv]) hn (hl _) (fun ls' h' => kk _ hfun ls' h')
theorem ow_r_irem (hexec : p.tables.exec = Jvm.exec) (hb : c.code = cc) {x y : Int32} (hdg : decode cc pc = .ok (.irem, 1)) (hne : ¬ y = 0)
    (kk : W p l e R s m args below meth c H locs cells slots Q (F0 m (pc + 1) ls (.int (ow_irem x y) :: rest))) : W p l e R s m args below meth c H locs cells slots Q (F0 m pc ls (.int y :: .int x :: rest)) := lv_irem hexec hb hdg hne kk
theorem ow_r_lrem (hexec : p.tables.exec = Jvm.exec) (hb : c.code = cc) {x y : Int64} (hdg : decode cc pc = .ok (.lrem, 1)) (hne : ¬ y = 0)
    (kk : W p l e R s m args below meth c H locs cells slots Q (F0 m (pc + 1) ls (.long (ow_lrem x y) :: rest))) : W p l e R s m args below meth c H locs cells slots Q (F0 m pc ls (.long y :: .long x :: rest)) := lv_lrem hexec hb hdg hne kk
theorem ow_r_max (hexec : p.tables.exec = Jvm.exec) (hb : c.code = cc) (hml : c.maxLocals = ls.size) (hown : s.vm.findClass own = some m.cls) (hlink : (Cond.methodLink own index Lib.Math.max.name).before args s = true) (hstat : (Cond.static Lib.Math.max.name).before args s = true) (hini : (Cond.initialized "java/lang/Math").before args s = true) (hcode : (Cond.code Lib.Math.max.name Lib.Math.max.code 2 (some .int)).before args s = true)
    (hframes : 1 ≤ R.frames) (hlocals : (rest.map fun v => v.category).sum + 13 ≤ R.locals) (hc : cells ≤ R.cells) (hs : slots ≤ R.slots) {x y : Int32} (hdg : decode cc pc = .ok (.invokestatic index, 3))
    (kk : W p l e R s m args below meth c H locs cells slots Q (F0 m (pc + 3) ls (.int (ow_max x y) :: rest))) : W p l e R s m args below meth c H locs cells slots Q (F0 m pc ls (.int y :: .int x :: rest)) := va_mmax hexec hb hml hown hlink hstat hini hcode hframes hlocals hc hs hdg kk
theorem ow_r_min (hexec : p.tables.exec = Jvm.exec) (hb : c.code = cc) (hml : c.maxLocals = ls.size) (hown : s.vm.findClass own = some m.cls) (hlink : (Cond.methodLink own index Lib.Math.min.name).before args s = true) (hstat : (Cond.static Lib.Math.min.name).before args s = true) (hini : (Cond.initialized "java/lang/Math").before args s = true) (hcode : (Cond.code Lib.Math.min.name Lib.Math.min.code 2 (some .int)).before args s = true)
    (hframes : 1 ≤ R.frames) (hlocals : (rest.map fun v => v.category).sum + 13 ≤ R.locals) (hc : cells ≤ R.cells) (hs : slots ≤ R.slots) {x y : Int32} (hdg : decode cc pc = .ok (.invokestatic index, 3))
    (kk : W p l e R s m args below meth c H locs cells slots Q (F0 m (pc + 3) ls (.int (ow_min x y) :: rest))) : W p l e R s m args below meth c H locs cells slots Q (F0 m pc ls (.int y :: .int x :: rest)) := va_mmin hexec hb hml hown hlink hstat hini hcode hframes hlocals hc hs hdg kk
theorem ow_ifnull {o : Option Nat} (hexec : p.tables.exec = Jvm.exec) (hb : c.code = cc) {off : Int} {tgt : Nat} (hdg : decode cc pc = .ok (.ifnull off, 3)) (ht : (pc : Int) + off = (tgt : Int)) (kn : o = none → W p l e R s m args below meth c H locs cells slots Q (F0 m tgt ls rest)) (ks : ∀ t, o = some t → W p l e R s m args below meth c H locs cells slots Q (F0 m (pc + 3) ls rest)) : W p l e R s m args below meth c H locs cells slots Q (F0 m pc ls (va_rf (o.map (ow_ad Z)) :: rest)) := by
  cases o with
  | none => exact lv_ifnullN hexec hb hdg ht (kn rfl)
  | some t => exact lv_ifnull hexec hb hdg (ks t rfl)
theorem ow_ifnonnull {o : Option Nat} (hexec : p.tables.exec = Jvm.exec) (hb : c.code = cc) {off : Int} {tgt : Nat} (hdg : decode cc pc = .ok (.ifnonnull off, 3)) (ht : (pc : Int) + off = (tgt : Int)) (kn : o = none → W p l e R s m args below meth c H locs cells slots Q (F0 m (pc + 3) ls rest)) (ks : ∀ t, o = some t → W p l e R s m args below meth c H locs cells slots Q (F0 m tgt ls rest)) : W p l e R s m args below meth c H locs cells slots Q (F0 m pc ls (va_rf (o.map (ow_ad Z)) :: rest)) := by
  cases o with
  | none => exact lv_ifnonnullN hexec hb hdg (kn rfl)
  | some t => exact lv_ifnonnull hexec hb hdg ht (ks t rfl)
end OWS
theorem ow_i0 : ow_in 0 56 0 8 := ⟨by decide, by decide, rfl⟩
theorem ow_i1 : ow_in 0 56 1 4 := ⟨by decide, by decide, rfl⟩
theorem ow_i2 : ow_in 0 56 2 10 := ⟨by decide, by decide, rfl⟩
theorem ow_i3 : ow_in 0 56 3 4 := ⟨by decide, by decide, rfl⟩
theorem ow_i4 : ow_in 0 56 4 10 := ⟨by decide, by decide, rfl⟩
theorem ow_i5 : ow_in 0 56 5 11 := ⟨by decide, by decide, rfl⟩
theorem ow_i6 : ow_in 0 56 6 0 := ⟨by decide, by decide, rfl⟩
theorem ow_i7 : ow_in 0 56 7 3 := ⟨by decide, by decide, rfl⟩
theorem ow_i8 : ow_in 0 56 8 10 := ⟨by decide, by decide, rfl⟩
theorem ow_i9 : ow_in 0 56 9 13 := ⟨by decide, by decide, rfl⟩
theorem ow_i10 : ow_in 0 56 10 7 := ⟨by decide, by decide, rfl⟩
theorem ow_i11 : ow_in 0 56 11 10 := ⟨by decide, by decide, rfl⟩
theorem ow_i12 : ow_in 0 56 12 10 := ⟨by decide, by decide, rfl⟩
theorem ow_i13 : ow_in 0 56 13 2 := ⟨by decide, by decide, rfl⟩
theorem ow_i14 : ow_in 0 56 14 10 := ⟨by decide, by decide, rfl⟩
theorem ow_i15 : ow_in 0 56 15 12 := ⟨by decide, by decide, rfl⟩
theorem ow_i16 : ow_in 0 56 16 1 := ⟨by decide, by decide, rfl⟩
theorem ow_i17 : ow_in 0 56 17 4 := ⟨by decide, by decide, rfl⟩
theorem ow_i18 : ow_in 0 56 18 10 := ⟨by decide, by decide, rfl⟩
theorem ow_i19 : ow_in 0 56 19 11 := ⟨by decide, by decide, rfl⟩
theorem ow_i20 : ow_in 0 56 20 0 := ⟨by decide, by decide, rfl⟩
theorem ow_i21 : ow_in 0 56 21 0 := ⟨by decide, by decide, rfl⟩
theorem ow_i22 : ow_in 0 56 22 0 := ⟨by decide, by decide, rfl⟩
theorem ow_i23 : ow_in 0 56 23 0 := ⟨by decide, by decide, rfl⟩
theorem ow_i24 : ow_in 0 56 24 0 := ⟨by decide, by decide, rfl⟩
theorem ow_i25 : ow_in 0 56 25 0 := ⟨by decide, by decide, rfl⟩
theorem ow_i26 : ow_in 0 56 26 0 := ⟨by decide, by decide, rfl⟩
theorem ow_i27 : ow_in 0 56 27 0 := ⟨by decide, by decide, rfl⟩
theorem ow_i28 : ow_in 0 56 28 0 := ⟨by decide, by decide, rfl⟩
theorem ow_i29 : ow_in 0 56 29 0 := ⟨by decide, by decide, rfl⟩
theorem ow_i30 : ow_in 0 56 30 6 := ⟨by decide, by decide, rfl⟩
theorem ow_i31 : ow_in 0 56 31 10 := ⟨by decide, by decide, rfl⟩
theorem ow_i32 : ow_in 0 56 32 10 := ⟨by decide, by decide, rfl⟩
theorem ow_i33 : ow_in 0 56 33 6 := ⟨by decide, by decide, rfl⟩
theorem ow_i34 : ow_in 0 56 34 10 := ⟨by decide, by decide, rfl⟩
theorem ow_i35 : ow_in 0 56 35 10 := ⟨by decide, by decide, rfl⟩
theorem ow_i36 : ow_in 0 56 36 6 := ⟨by decide, by decide, rfl⟩
theorem ow_i37 : ow_in 0 56 37 10 := ⟨by decide, by decide, rfl⟩
theorem ow_i38 : ow_in 0 56 38 10 := ⟨by decide, by decide, rfl⟩
theorem ow_i39 : ow_in 0 56 39 6 := ⟨by decide, by decide, rfl⟩
theorem ow_i40 : ow_in 0 56 40 10 := ⟨by decide, by decide, rfl⟩
theorem ow_i41 : ow_in 0 56 41 10 := ⟨by decide, by decide, rfl⟩
theorem ow_i42 : ow_in 0 56 42 6 := ⟨by decide, by decide, rfl⟩
theorem ow_i43 : ow_in 0 56 43 10 := ⟨by decide, by decide, rfl⟩
theorem ow_i44 : ow_in 0 56 44 10 := ⟨by decide, by decide, rfl⟩
theorem ow_i45 : ow_in 0 56 45 6 := ⟨by decide, by decide, rfl⟩
theorem ow_i46 : ow_in 0 56 46 10 := ⟨by decide, by decide, rfl⟩
theorem ow_i47 : ow_in 0 56 47 10 := ⟨by decide, by decide, rfl⟩
theorem ow_i48 : ow_in 0 56 48 5 := ⟨by decide, by decide, rfl⟩
theorem ow_i49 : ow_in 0 56 49 10 := ⟨by decide, by decide, rfl⟩
theorem ow_i50 : ow_in 0 56 50 5 := ⟨by decide, by decide, rfl⟩
theorem ow_i51 : ow_in 0 56 51 10 := ⟨by decide, by decide, rfl⟩
theorem ow_i52 : ow_in 0 56 52 5 := ⟨by decide, by decide, rfl⟩
theorem ow_i53 : ow_in 0 56 53 10 := ⟨by decide, by decide, rfl⟩
theorem ow_i54 : ow_in 0 56 54 5 := ⟨by decide, by decide, rfl⟩
theorem ow_i55 : ow_in 0 56 55 10 := ⟨by decide, by decide, rfl⟩
theorem ow_i56 : ow_in 56 20 56 9 := ⟨by decide, by decide, rfl⟩
theorem ow_i57 : ow_in 56 20 57 10 := ⟨by decide, by decide, rfl⟩
theorem ow_i58 : ow_in 56 20 58 10 := ⟨by decide, by decide, rfl⟩
theorem ow_i59 : ow_in 56 20 59 10 := ⟨by decide, by decide, rfl⟩
theorem ow_i60 : ow_in 56 20 60 10 := ⟨by decide, by decide, rfl⟩
theorem ow_i61 : ow_in 56 20 61 10 := ⟨by decide, by decide, rfl⟩
theorem ow_i62 : ow_in 56 20 62 10 := ⟨by decide, by decide, rfl⟩
theorem ow_i63 : ow_in 56 20 63 10 := ⟨by decide, by decide, rfl⟩
theorem ow_i64 : ow_in 56 20 64 10 := ⟨by decide, by decide, rfl⟩
theorem ow_i65 : ow_in 56 20 65 10 := ⟨by decide, by decide, rfl⟩
theorem ow_i66 : ow_in 56 20 66 10 := ⟨by decide, by decide, rfl⟩
theorem ow_i67 : ow_in 56 20 67 10 := ⟨by decide, by decide, rfl⟩
theorem ow_i68 : ow_in 56 20 68 10 := ⟨by decide, by decide, rfl⟩
theorem ow_i69 : ow_in 56 20 69 10 := ⟨by decide, by decide, rfl⟩
theorem ow_i70 : ow_in 56 20 70 10 := ⟨by decide, by decide, rfl⟩
theorem ow_i71 : ow_in 56 20 71 10 := ⟨by decide, by decide, rfl⟩
theorem ow_i72 : ow_in 56 20 72 10 := ⟨by decide, by decide, rfl⟩
theorem ow_i73 : ow_in 56 20 73 10 := ⟨by decide, by decide, rfl⟩
theorem ow_i74 : ow_in 56 20 74 10 := ⟨by decide, by decide, rfl⟩
theorem ow_i75 : ow_in 56 20 75 10 := ⟨by decide, by decide, rfl⟩
