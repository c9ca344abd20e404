/-! worlds by keys: a fixed list of keys K, an address for each, a cell for each -/
def kW (K : List (Nat × Nat)) (ad : Nat × Nat → Nat) (g : Nat × Nat → va_E) : va_W := K.map (fun κ => (ad κ, g κ))
def ku (g : Nat × Nat → va_E) (κ : Nat × Nat) (e : va_E) : Nat × Nat → va_E := fun j => if j = κ then e else g j
def kA (K : List (Nat × Nat)) (ad : Nat × Nat → Nat) (sz : Nat) : Nat → Prop := fun q => (∃ κ, κ ∈ K ∧ ad κ = q) ∨ sz ≤ q
def kB (D : va_G) (tys : List (ClassId × FieldType)) (K : List (Nat × Nat)) (ad : Nat × Nat → Nat) (g : Nat × Nat → va_E) (U : State) : Prop := va_P D kCl (kW K ad g) U.heap ∧ va_K D kCl tys U ∧ va_D (fun _ => True) (kW K ad g)
theorem ku_self (g : Nat × Nat → va_E) (κ : Nat × Nat) (e : va_E) : ku g κ e κ = e := by simp [ku]
theorem ku_ne {g : Nat × Nat → va_E} {κ j : Nat × Nat} {e : va_E} (h : j ≠ κ) : ku g κ e j = g j := by simp [ku, h]
theorem kW_at {K : List (Nat × Nat)} {ad : Nat × Nat → Nat} {g : Nat × Nat → va_E} {κ : Nat × Nat} (h : κ ∈ K) : ∃ k : Nat, K[k]? = some κ ∧ (kW K ad g)[k]? = some (ad κ, g κ) := by
  obtain ⟨k, hk⟩ := List.getElem?_of_mem h
  exact ⟨k, hk, by simp [kW, hk]⟩
theorem kW_set {A : Nat → Prop} {K : List (Nat × Nat)} {ad : Nat × Nat → Nat} {g : Nat × Nat → va_E} {κ : Nat × Nat} {e : va_E} {k : Nat} (hD : va_D A (kW K ad g)) (hk : K[k]? = some κ) : (kW K ad g).set k (ad κ, e) = kW K ad (ku g κ e) := by
  have hl : k < K.length := (List.getElem?_eq_some_iff.mp hk).1
  apply List.ext_getElem?
  intro j
  by_cases hj : j = k
  · subst hj
    rw [List.getElem?_set_self (by simpa [kW] using hl)]
    simp [kW, hk, ku_self]
  · rw [List.getElem?_set_ne (Ne.symm hj)]
    simp only [kW, List.getElem?_map]
    cases hb : K[j]? with
    | none => rfl
    | some b =>
      have hne : b ≠ κ := by
        intro hab
        subst hab
        exact hj (hD.1 j k (ad b, g b) (ad b, g b) (by simp [kW, hb]) (by simp [kW, hk]) rfl)
      simp [ku_ne hne]
theorem kA_in {K : List (Nat × Nat)} {ad : Nat × Nat → Nat} {sz : Nat} {κ : Nat × Nat} (h : κ ∈ K) : kA K ad sz (ad κ) := Or.inl ⟨κ, h, rfl⟩
theorem kW_mem {K : List (Nat × Nat)} {ad : Nat × Nat → Nat} {g : Nat × Nat → va_E} {k : Nat} {q : Nat × va_E} (h : (kW K ad g)[k]? = some q) : ∃ κ, κ ∈ K ∧ q = (ad κ, g κ) := by
  simp only [kW, List.getElem?_map] at h
  cases hb : K[k]? with
  | none => rw [hb] at h; cases h
  | some b => rw [hb] at h; exact ⟨b, List.mem_of_getElem? hb, (Option.some.inj h).symm⟩
theorem kD_any {A : Nat → Prop} {K : List (Nat × Nat)} {ad : Nat × Nat → Nat} {g : Nat × Nat → va_E} (sz : Nat) (h : va_D A (kW K ad g)) : va_D (kA K ad sz) (kW K ad g) := ⟨h.1, fun k q hk => by
  obtain ⟨κ, h1, rfl⟩ := kW_mem hk
  exact kA_in h1⟩
theorem kD_inj {A : Nat → Prop} {K : List (Nat × Nat)} {ad : Nat × Nat → Nat} {g : Nat × Nat → va_E} (h : va_D A (kW K ad g)) {a b : Nat × Nat} (ha : a ∈ K) (hb : b ∈ K) (e : ad a = ad b) : a = b := by
  obtain ⟨i, hi, hi2⟩ := kW_at (ad := ad) (g := g) ha
  obtain ⟨j, hj, hj2⟩ := kW_at (ad := ad) (g := g) hb
  have := h.1 i j _ _ hi2 hj2 e
  subst this
  exact Option.some.inj (hi.symm.trans hj)
theorem kB_blind {D : va_G} {tys : List (ClassId × FieldType)} {K : List (Nat × Nat)} {ad : Nat × Nat → Nat} {g : Nat × Nat → va_E} (av : List Value) (sz : Nat) : FrameBlind (va_Pc av (fun U => U.heap.size = sz ∧ kB D tys K ad g U)) := fun a U g' mk q => by
  obtain ⟨q0, q1, qP, qK, qD⟩ := q
  exact ⟨q0, q1, qP, va_K.moved (u := U) (U := U.calling g' mk a) (Vm.Alike.refl U.vm) qK, qD⟩
/-- a method's words: its own code, and all the tables' good words -/
def km (y : MethodName) (b : ByteArray) (n : Nat) (r : Option FieldType) : List Cond := Cond.code y b n r :: kB_l
theorem km_good {Ts : List Cond} (hT : ∀ w ∈ kB_l, w ∈ Ts) {y : MethodName} {b : ByteArray} {n : Nat} {r : Option FieldType} (h : Cond.code y b n r ∈ kB_l) : GoodIn Ts (km y b n r) := fun w hw => by
  rcases List.mem_cons.mp hw with rfl | hw
  · exact ⟨hT _ h, kB_good h⟩
  · exact ⟨hT _ hw, kB_good hw⟩
theorem km_goodV {Ts : List Cond} (hT : ∀ w ∈ kB_l, w ∈ Ts) {own C : String} {idx : Nat} {y : MethodName} {b : ByteArray} {n : Nat} {r : Option FieldType} (h1 : Cond.methodLink own idx y ∈ kB_l) (h2 : Cond.instanceMethod y ∈ kB_l) (h3 : Cond.selects C y y ∈ kB_l) (h4 : Cond.initialized C ∈ kB_l) (h5 : Cond.code y b n r ∈ kB_l) : GoodIn Ts (wsV own idx C y (km y b n r)) := fun w hw => by
  rcases List.mem_append.mp hw with hw | hw
  · have : w ∈ kB_l := by
      simp only [List.mem_cons, List.not_mem_nil, or_false] at hw
      rcases hw with rfl | rfl | rfl | rfl <;> assumption
    exact ⟨hT _ this, kB_good this⟩
  · exact km_good hT h5 w hw
theorem km_goodS {Ts : List Cond} (hT : ∀ w ∈ kB_l, w ∈ Ts) {own : String} {idx : Nat} {y : MethodName} {b : ByteArray} {n : Nat} {r : Option FieldType} (h1 : Cond.methodLink own idx y ∈ kB_l) (h2 : Cond.static y ∈ kB_l) (h4 : Cond.initialized y.cls ∈ kB_l) (h5 : Cond.code y b n r ∈ kB_l) : GoodIn Ts (va_wsS own idx y (km y b n r)) := fun w hw => by
  rcases List.mem_append.mp hw with hw | hw
  · have : w ∈ kB_l := by
      simp only [List.mem_cons, List.not_mem_nil, or_false] at hw
      rcases hw with rfl | rfl | rfl <;> assumption
    exact ⟨hT _ this, kB_good this⟩
  · exact km_good hT h5 w hw
section KX
variable {p : Program} {l : Launch} {e : Env} {R : Room} {s : State} {m : MethodId} {args : Array Value} {below : List Frame} {meth : Method} {c : Code} {H : Heap} {locs : List Loc} {cells slots : Nat} {Q : State → Prop}
variable {cc : ByteArray} {pc : Nat} {ls : Array Slot} {rest : List Value} {D : va_G} {A : Nat → Prop} {tys : List (ClassId × FieldType)} {H0 : Heap} {K : List (Nat × Nat)} {ad : Nat × Nat → Nat} {g : Nat × Nat → va_E}
theorem kx_get (hexec : p.tables.exec = Jvm.exec) (hb : c.code = cc) {own ref C : String} {T : u_T} {N ci index : Nat} (hts : ∀ w ∈ kB_l, w.before args s = true) (hin : ∀ w ∈ u_ws C T N, w ∈ kB_l) (hown : s.vm.findClass own = some m.cls) (hK : va_K D kCl tys s) (hP : va_P D kCl (kW K ad g) H) {κ : Nat × Nat} (hκ : κ ∈ K) {fs : List Value} (he : g κ = .inr (ci, fs)) (hc : kCl[ci]? = some (C, T, N)) (k : Nat) (hk : k < N) (hlink : Cond.fieldLink own index ref (T k).2.1 (T k).2.2.1 ∈ kB_l) (hsame : (T k).1 = ref) {v : Value} (hv : fs[k]? = some v) (hdg : decode cc pc = .ok (.getfield index, 3))
    (kk : W p l e R s m args below meth c H locs cells slots Q (F0 m (pc + 3) ls (v :: rest))) : W p l e R s m args below meth c H locs cells slots Q (F0 m pc ls (.ref (ad κ) :: rest)) := by
  obtain ⟨k0, -, h2⟩ := kW_at (ad := ad) (g := g) hκ
  rw [he] at h2
  subst hsame
  exact va_get hexec hb hts hin hown hK hP k0 h2 hc k hk (hts _ hlink) (fun _ h => h) hv hdg kk
theorem kx_put (hexec : p.tables.exec = Jvm.exec) (hb : c.code = cc) {own ref C : String} {T : u_T} {N ci index : Nat} (hts : ∀ w ∈ kB_l, w.before args s = true) (hin : ∀ w ∈ u_ws C T N, w ∈ kB_l) (ty0 : Nat → FieldType) (hty : ∀ k, k < N → parseFieldDescriptor (T k).2.2.1 = some (ty0 k)) (hnm : ∀ a, a < N → ∀ b, b < N → a ≠ b → (T a).2.1 ≠ (T b).2.1) (hown : s.vm.findClass own = some m.cls) (hK : va_K D kCl tys s) (hP : va_P D kCl (kW K ad g) H) (hD : va_D A (kW K ad g)) (hS0 : va_S A H0 H locs) {κ : Nat × Nat} (hκ : κ ∈ K) {fs : List Value} (he : g κ = .inr (ci, fs)) (hc : kCl[ci]? = some (C, T, N)) (k : Nat) (hk : k < N) (hlink : Cond.fieldLink own index ref (T k).2.1 (T k).2.2.1 ∈ kB_l) (hsame : (T k).1 = ref) (hfin : (T k).2.2.2 = false) {v : Value} (hn : narrow (ty0 k) v = v) (hfit : fits (ty0 k) v = true) (hl : k < fs.length) {g2 : Nat × Nat → va_E} (hg : ku g κ (.inr (ci, fs.set k v)) = g2)
    (hdg : decode cc pc = .ok (.putfield index, 3)) (kk : ∀ (H1 : Heap) (locs1 : List Loc), va_P D kCl (kW K ad g2) H1 → va_D A (kW K ad g2) → va_S A H0 H1 locs1 → W p l e R s m args below meth c H1 locs1 cells slots Q (F0 m (pc + 3) ls rest)) : W p l e R s m args below meth c H locs cells slots Q (F0 m pc ls (v :: .ref (ad κ) :: rest)) := by
  obtain ⟨k0, h1, h2⟩ := kW_at (ad := ad) (g := g) hκ
  rw [he] at h2
  subst hsame
  refine va_put hexec hb hts hin ty0 hty hnm hown hK hP hD hS0 k0 h2 hc k hk (hts _ hlink) (fun _ h => h) hfin (hty k hk) hn hfit hl hdg (fun H1 locs1 hP1 hD1 hS1 => ?_)
  rw [kW_set hD h1, hg] at hP1 hD1
  exact kk H1 locs1 hP1 hD1 hS1
theorem kx_alen (hexec : p.tables.exec = Jvm.exec) (hb : c.code = cc) (hK : va_K D kCl tys s) (hP : va_P D kCl (kW K ad g) H) {κ : Nat × Nat} (hκ : κ ∈ K) (t0 : Nat) {cA : ClassId} {n : Nat} {x : (Nat → Int32) ⊕ (Nat → Int64) ⊕ (Nat → UInt32) ⊕ (Nat → UInt64) ⊕ (Nat → Option Nat)} (he : g κ = .inl (cA, n, x)) {ty : FieldType} (ht : tys[t0]? = some (cA, ty)) (hdg : decode cc pc = .ok (.arraylength, 1))
    (kk : W p l e R s m args below meth c H locs cells slots Q (F0 m (pc + 1) ls (.int (nI n) :: rest))) : W p l e R s m args below meth c H locs cells slots Q (F0 m pc ls (.ref (ad κ) :: rest)) := by
  obtain ⟨k0, -, h2⟩ := kW_at (ad := ad) (g := g) hκ
  rw [he] at h2
  exact va_alen hexec hb hK hP k0 t0 h2 ht rfl hdg kk
theorem kx_aald (hexec : p.tables.exec = Jvm.exec) (hb : c.code = cc) (hK : va_K D kCl tys s) (hP : va_P D kCl (kW K ad g) H) {κ : Nat × Nat} (hκ : κ ∈ K) (t0 : Nat) {cA : ClassId} {C : String} {n i : Nat} {f : Nat → Option Nat} (he : g κ = .inl (cA, n, .inr (.inr (.inr (.inr f))))) (ht : tys[t0]? = some (cA, .object C)) {x : Int32} (hx : x = nI i) (hi : i < n) (hn : n < 2 ^ 31) {q : Nat} (hq : f i = some q) (hdg : decode cc pc = .ok (.aaload, 1))
    (kk : W p l e R s m args below meth c H locs cells slots Q (F0 m (pc + 1) ls (.ref q :: rest))) : W p l e R s m args below meth c H locs cells slots Q (F0 m pc ls (.int x :: .ref (ad κ) :: rest)) := by
  obtain ⟨k0, -, h2⟩ := kW_at (ad := ad) (g := g) hκ
  rw [he] at h2
  subst hx
  refine va_aldq hexec hb hK hP k0 t0 h2 ht (vp_in_nI hi hn) hdg ?_
  rw [nI_clamp (by omega), hq]
  exact kk
theorem kx_lald (hexec : p.tables.exec = Jvm.exec) (hb : c.code = cc) (hK : va_K D kCl tys s) (hP : va_P D kCl (kW K ad g) H) {κ : Nat × Nat} (hκ : κ ∈ K) (t0 : Nat) {cA : ClassId} {n i : Nat} {f : Nat → Int64} (he : g κ = .inl (cA, n, .inr (.inl f))) (ht : tys[t0]? = some (cA, .long)) {x : Int32} (hx : x = nI i) (hi : i < n) (hn : n < 2 ^ 31) (hdg : decode cc pc = .ok (.laload, 1))
    (kk : W p l e R s m args below meth c H locs cells slots Q (F0 m (pc + 1) ls (.long (f i) :: rest))) : W p l e R s m args below meth c H locs cells slots Q (F0 m pc ls (.int x :: .ref (ad κ) :: rest)) := by
  obtain ⟨k0, -, h2⟩ := kW_at (ad := ad) (g := g) hκ
  rw [he] at h2
  subst hx
  refine va_lald hexec hb hK hP k0 t0 h2 ht (vp_in_nI hi hn) hdg ?_
  rw [nI_clamp (by omega)]
  exact kk
theorem kx_iald (hexec : p.tables.exec = Jvm.exec) (hb : c.code = cc) (hK : va_K D kCl tys s) (hP : va_P D kCl (kW K ad g) H) {κ : Nat × Nat} (hκ : κ ∈ K) (t0 : Nat) {cA : ClassId} {n i : Nat} {f : Nat → Int32} (he : g κ = .inl (cA, n, .inl f)) (ht : tys[t0]? = some (cA, .int)) {x : Int32} (hx : x = nI i) (hi : i < n) (hn : n < 2 ^ 31) (hdg : decode cc pc = .ok (.iaload, 1))
    (kk : W p l e R s m args below meth c H locs cells slots Q (F0 m (pc + 1) ls (.int (f i) :: rest))) : W p l e R s m args below meth c H locs cells slots Q (F0 m pc ls (.int x :: .ref (ad κ) :: rest)) := by
  obtain ⟨k0, -, h2⟩ := kW_at (ad := ad) (g := g) hκ
  rw [he] at h2
  subst hx
  refine va_iald hexec hb hK hP k0 t0 h2 ht (vp_in_nI hi hn) hdg ?_
  rw [nI_clamp (by omega)]
  exact kk
theorem kx_zald (hexec : p.tables.exec = Jvm.exec) (hb : c.code = cc) (hK : va_K D kCl tys s) (hP : va_P D kCl (kW K ad g) H) {κ : Nat × Nat} (hκ : κ ∈ K) (t0 : Nat) {cA : ClassId} {n i : Nat} {f : Nat → Int32} (he : g κ = .inl (cA, n, .inl f)) (ht : tys[t0]? = some (cA, .boolean)) {x : Int32} (hx : x = nI i) (hi : i < n) (hn : n < 2 ^ 31) (hdg : decode cc pc = .ok (.baload, 1))
    (kk : W p l e R s m args below meth c H locs cells slots Q (F0 m (pc + 1) ls (.int (f i) :: rest))) : W p l e R s m args below meth c H locs cells slots Q (F0 m pc ls (.int x :: .ref (ad κ) :: rest)) := by
  obtain ⟨k0, -, h2⟩ := kW_at (ad := ad) (g := g) hκ
  rw [he] at h2
  subst hx
  refine va_zald hexec hb hK hP k0 t0 h2 ht (vp_in_nI hi hn) hdg ?_
  rw [nI_clamp (by omega)]
  exact kk
theorem kx_last (hexec : p.tables.exec = Jvm.exec) (hb : c.code = cc) (hK : va_K D kCl tys s) (hP : va_P D kCl (kW K ad g) H) (hD : va_D A (kW K ad g)) (hS0 : va_S A H0 H locs) {κ : Nat × Nat} (hκ : κ ∈ K) (t0 : Nat) {cA : ClassId} {n i : Nat} {f : Nat → Int64} (he : g κ = .inl (cA, n, .inr (.inl f))) (ht : tys[t0]? = some (cA, .long)) {x : Int32} {v : Int64} (hx : x = nI i) (hi : i < n) (hn : n < 2 ^ 31) {g2 : Nat × Nat → va_E} (hg : ku g κ (.inl (cA, n, .inr (.inl (vp_updL f i v)))) = g2) (hdg : decode cc pc = .ok (.lastore, 1))
    (kk : ∀ (H1 : Heap) (locs1 : List Loc), va_P D kCl (kW K ad g2) H1 → va_D A (kW K ad g2) → va_S A H0 H1 locs1 → W p l e R s m args below meth c H1 locs1 cells slots Q (F0 m (pc + 1) ls rest)) : W p l e R s m args below meth c H locs cells slots Q (F0 m pc ls (.long v :: .int x :: .ref (ad κ) :: rest)) := by
  obtain ⟨k0, h1, h2⟩ := kW_at (ad := ad) (g := g) hκ
  rw [he] at h2
  subst hx
  refine va_last hexec hb hK hP hD hS0 k0 t0 h2 ht (vp_in_nI hi hn) hdg (fun H1 locs1 hP1 hD1 hS1 => ?_)
  rw [nI_clamp (by omega), kW_set hD h1, hg] at hP1 hD1
  exact kk H1 locs1 hP1 hD1 hS1
theorem kx_iast (hexec : p.tables.exec = Jvm.exec) (hb : c.code = cc) (hK : va_K D kCl tys s) (hP : va_P D kCl (kW K ad g) H) (hD : va_D A (kW K ad g)) (hS0 : va_S A H0 H locs) {κ : Nat × Nat} (hκ : κ ∈ K) (t0 : Nat) {cA : ClassId} {n i : Nat} {f : Nat → Int32} (he : g κ = .inl (cA, n, .inl f)) (ht : tys[t0]? = some (cA, .int)) {x : Int32} {v : Int32} (hx : x = nI i) (hi : i < n) (hn : n < 2 ^ 31) {g2 : Nat × Nat → va_E} (hg : ku g κ (.inl (cA, n, .inl (upd f i v))) = g2) (hdg : decode cc pc = .ok (.iastore, 1))
    (kk : ∀ (H1 : Heap) (locs1 : List Loc), va_P D kCl (kW K ad g2) H1 → va_D A (kW K ad g2) → va_S A H0 H1 locs1 → W p l e R s m args below meth c H1 locs1 cells slots Q (F0 m (pc + 1) ls rest)) : W p l e R s m args below meth c H locs cells slots Q (F0 m pc ls (.int v :: .int x :: .ref (ad κ) :: rest)) := by
  obtain ⟨k0, h1, h2⟩ := kW_at (ad := ad) (g := g) hκ
  rw [he] at h2
  subst hx
  refine va_iast hexec hb hK hP hD hS0 k0 t0 h2 ht (vp_in_nI hi hn) hdg (fun H1 locs1 hP1 hD1 hS1 => ?_)
  rw [nI_clamp (by omega), kW_set hD h1, hg] at hP1 hD1
  exact kk H1 locs1 hP1 hD1 hS1
theorem kx_zast (hexec : p.tables.exec = Jvm.exec) (hb : c.code = cc) (hK : va_K D kCl tys s) (hP : va_P D kCl (kW K ad g) H) (hD : va_D A (kW K ad g)) (hS0 : va_S A H0 H locs) {κ : Nat × Nat} (hκ : κ ∈ K) (t0 : Nat) {cA : ClassId} {n i : Nat} {f : Nat → Int32} (he : g κ = .inl (cA, n, .inl f)) (ht : tys[t0]? = some (cA, .boolean)) {x : Int32} {v : Int32} (hv : vp_nar .boolean v = v) (hx : x = nI i) (hi : i < n) (hn : n < 2 ^ 31) {g2 : Nat × Nat → va_E} (hg : ku g κ (.inl (cA, n, .inl (upd f i v))) = g2) (hdg : decode cc pc = .ok (.bastore, 1))
    (kk : ∀ (H1 : Heap) (locs1 : List Loc), va_P D kCl (kW K ad g2) H1 → va_D A (kW K ad g2) → va_S A H0 H1 locs1 → W p l e R s m args below meth c H1 locs1 cells slots Q (F0 m (pc + 1) ls rest)) : W p l e R s m args below meth c H locs cells slots Q (F0 m pc ls (.int v :: .int x :: .ref (ad κ) :: rest)) := by
  obtain ⟨k0, h1, h2⟩ := kW_at (ad := ad) (g := g) hκ
  rw [he] at h2
  subst hx
  refine va_zast hexec hb hK hP hD hS0 k0 t0 h2 ht (vp_in_nI hi hn) hdg (fun H1 locs1 hP1 hD1 hS1 => ?_)
  rw [nI_clamp (by omega), hv, kW_set hD h1, hg] at hP1 hD1
  exact kk H1 locs1 hP1 hD1 hS1
variable {Sg : Type} {G : Sg → Nat × Nat → va_E} {σ : Sg} {y : MethodName} {bytes : ByteArray} {maxL nL n index : Nat} {rm : Room} {own C : String} {b : Addr} {As : List Value} {Ts : List Cond}
/-- a call of a method of ours on an object of the world, that answers an int (or a boolean) -/
theorem kx_Vi {ret : Option FieldType} {post : Int32 → Sg → Prop} {κ : Nat × Nat} {ci : Nat} {fs : List Value} {T : u_T} {N : Nat} (hexec : p.tables.exec = Jvm.exec) (hb : c.code = cc) (hml : c.maxLocals = nL) (hown : s.vm.findClass own = some m.cls) (htT : ∀ w ∈ Ts, w.before args s = true) (hT : ∀ w ∈ kB_l, w ∈ Ts)
    (hM : Met l y (km y bytes maxL ret) rm (va_Pc (.ref (ad κ) :: As) (fun U => U.heap.size = H.size ∧ kB D tys K ad (G σ) U)) (va_Qi post (fun τ t => kB D tys K ad (G τ) t) (kA K ad H.size)) 0 0 (kA K ad H.size))
    (w1 : Cond.methodLink own index y ∈ kB_l) (w2 : Cond.instanceMethod y ∈ kB_l) (w3 : Cond.selects C y y ∈ kB_l) (w4 : Cond.initialized C ∈ kB_l) (w5 : Cond.code y bytes maxL ret ∈ kB_l)
    (hd : y.cls = C ∧ y.cls ≠ "java/lang/invoke/MethodHandle" ∧ y.cls ≠ "java/lang/invoke/VarHandle" ∧ (parseMethodDescriptor y.desc).map (fun d => d.parameters.length) = some n) (hrm : rm.cells = 0 ∧ rm.slots = 0) (hR : rm.frames + 1 ≤ R.frames ∧ 8 + (maxL + 11) + rm.locals ≤ R.locals)
    (hK : va_K D kCl tys s) (hP : va_P D kCl (kW K ad (G σ)) H) (hD : va_D (kA K ad H0.size) (kW K ad (G σ))) (hS : va_S (kA K ad H0.size) H0 H locs) (hκ : κ ∈ K) (he : G σ κ = .inr (ci, fs)) (hc : kCl[ci]? = some (C, T, N))
    (hn : As.length = n) (hsize : ls.size = nL) (hW : (rest.map fun v => v.category).sum ≤ 8) (hdg : decode cc pc = .ok (.invokevirtual index, 3)) {st0 : List Value} (hstack : st0 = As.reverse ++ .ref (ad κ) :: rest) (hf : cells ≤ R.cells ∧ slots ≤ R.slots)
    (kk : ∀ (r : Int32) (τ : Sg) (H1 : Heap) (locs1 : List Loc), post r τ → va_P D kCl (kW K ad (G τ)) H1 → va_D (kA K ad H0.size) (kW K ad (G τ)) → va_S (kA K ad H0.size) H0 H1 locs1 → W p l e R s m args below meth c H1 locs1 cells slots Q (F0 m (pc + 3) ls (.int r :: rest))) : W p l e R s m args below meth c H locs cells slots Q (F0 m pc ls st0) := by
  subst hstack
  obtain ⟨k0, -, h2⟩ := kW_at (ad := ad) (g := G σ) hκ
  rw [he] at h2
  have hsub : ∀ q : Nat, kA K ad H.size q → kA K ad H0.size q := fun q h => h.elim Or.inl (fun h => Or.inr (Nat.le_trans hS.1 h))
  refine va_calli (va_runV (As := As) (rest := rest) ⟨hexec, hb, hml, hown, htT⟩ hM (cwV n htT (km_goodV hT w1 w2 w3 w4 w5) rfl hrm.1 hrm.2 hd hR) ⟨kB_blind _ _, va_recv hK hP hc h2, fun U hU hWm => ⟨rfl, by rw [hU], by rw [hU]; exact hP, va_K.moved hWm.alike hK, hD.weaken (fun _ _ _ _ => trivial)⟩⟩ rfl hn hsize rfl (lv_room hW) hdg hf) hS (fun q _ h => hsub q h) hsub (fun r τ t H1 locs1 ht hvm hw hB hz1 hk1 hS1 => ?_)
  obtain ⟨hP1, -, hD1⟩ := hB
  rw [ht] at hP1
  exact kk r τ H1 locs1 hw hP1 (kD_any _ hD1) hS1
/-- the same, of a method without an answer -/
theorem kx_Vv {post : Sg → Prop} {κ : Nat × Nat} {ci : Nat} {fs : List Value} {T : u_T} {N : Nat} (hexec : p.tables.exec = Jvm.exec) (hb : c.code = cc) (hml : c.maxLocals = nL) (hown : s.vm.findClass own = some m.cls) (htT : ∀ w ∈ Ts, w.before args s = true) (hT : ∀ w ∈ kB_l, w ∈ Ts)
    (hM : Met l y (km y bytes maxL none) rm (va_Pc (.ref (ad κ) :: As) (fun U => U.heap.size = H.size ∧ kB D tys K ad (G σ) U)) (va_Qv post (fun τ t => kB D tys K ad (G τ) t) (kA K ad H.size)) 0 0 (kA K ad H.size))
    (w1 : Cond.methodLink own index y ∈ kB_l) (w2 : Cond.instanceMethod y ∈ kB_l) (w3 : Cond.selects C y y ∈ kB_l) (w4 : Cond.initialized C ∈ kB_l) (w5 : Cond.code y bytes maxL none ∈ kB_l)
    (hd : y.cls = C ∧ y.cls ≠ "java/lang/invoke/MethodHandle" ∧ y.cls ≠ "java/lang/invoke/VarHandle" ∧ (parseMethodDescriptor y.desc).map (fun d => d.parameters.length) = some n) (hrm : rm.cells = 0 ∧ rm.slots = 0) (hR : rm.frames + 1 ≤ R.frames ∧ 8 + (maxL + 11) + rm.locals ≤ R.locals)
    (hK : va_K D kCl tys s) (hP : va_P D kCl (kW K ad (G σ)) H) (hD : va_D (kA K ad H0.size) (kW K ad (G σ))) (hS : va_S (kA K ad H0.size) H0 H locs) (hκ : κ ∈ K) (he : G σ κ = .inr (ci, fs)) (hc : kCl[ci]? = some (C, T, N))
    (hn : As.length = n) (hsize : ls.size = nL) (hW : (rest.map fun v => v.category).sum ≤ 8) (hdg : decode cc pc = .ok (.invokevirtual index, 3)) {st0 : List Value} (hstack : st0 = As.reverse ++ .ref (ad κ) :: rest) (hf : cells ≤ R.cells ∧ slots ≤ R.slots)
    (kk : ∀ (τ : Sg) (H1 : Heap) (locs1 : List Loc), post τ → va_P D kCl (kW K ad (G τ)) H1 → va_D (kA K ad H0.size) (kW K ad (G τ)) → va_S (kA K ad H0.size) H0 H1 locs1 → W p l e R s m args below meth c H1 locs1 cells slots Q (F0 m (pc + 3) ls rest)) : W p l e R s m args below meth c H locs cells slots Q (F0 m pc ls st0) := by
  subst hstack
  obtain ⟨k0, -, h2⟩ := kW_at (ad := ad) (g := G σ) hκ
  rw [he] at h2
  have hsub : ∀ q : Nat, kA K ad H.size q → kA K ad H0.size q := fun q h => h.elim Or.inl (fun h => Or.inr (Nat.le_trans hS.1 h))
  refine va_callv (va_runV (As := As) (rest := rest) ⟨hexec, hb, hml, hown, htT⟩ hM (cwV n htT (km_goodV hT w1 w2 w3 w4 w5) rfl hrm.1 hrm.2 hd hR) ⟨kB_blind _ _, va_recv hK hP hc h2, fun U hU hWm => ⟨rfl, by rw [hU], by rw [hU]; exact hP, va_K.moved hWm.alike hK, hD.weaken (fun _ _ _ _ => trivial)⟩⟩ rfl hn hsize rfl (lv_room hW) hdg hf) hS (fun q _ h => hsub q h) hsub (fun τ t H1 locs1 ht hvm hw hB hz1 hk1 hS1 => ?_)
  obtain ⟨hP1, -, hD1⟩ := hB
  rw [ht] at hP1
  exact kk τ H1 locs1 hw hP1 (kD_any _ hD1) hS1
end KX
