/-! what the constructors make -/
theorem k_uni {D : va_G} {cl : List vw_C} {tys : List (ClassId × FieldType)} {U : State} (h : va_K D cl tys U) {i j : Nat} {c1 c2 : ClassId} {ty : FieldType} (h1 : tys[i]? = some (c1, ty)) (h2 : tys[j]? = some (c2, ty)) : c1 = c2 := by
  have a := (h.2 i _ h1).2
  have b := (h.2 j _ h2).2
  cases ty with
  | object C =>
    obtain ⟨_, _, _, _, _, a⟩ := a
    obtain ⟨_, _, _, _, _, b⟩ := b
    exact Option.some.inj (a.symm.trans b)
  | _ => exact Option.some.inj (a.symm.trans b)
/-- two worlds side by side, of which the second went through a call -/
theorem va_jn {A0 : Nat → Prop} {D : va_G} {cl : List vw_C} {w1 w2 w3 : va_W} {H H1 : Heap} (hP : va_P D cl (w1 ++ w2) H) (hD : va_D A0 (w1 ++ w2)) (hk : ∀ q : Nat, q < H.size → ¬ va_A w2 H.size q → H1[q]? = H[q]?) (hF : ∀ q, va_A w2 H.size q → A0 q) (hP1 : va_P D cl w3 H1) (hD1 : va_D (va_A w2 H.size) w3) : va_P D cl (w1 ++ w3) H1 ∧ va_D A0 (w1 ++ w3) := by
  have hl : ∀ (k : Nat) (q : Nat × va_E), w1[k]? = some q → (w1 ++ w2)[k]? = some q := fun k q h => by rw [List.getElem?_append_left (List.getElem?_eq_some_iff.mp h).1]; exact h
  have apart : ∀ (k : Nat) (q : Nat × va_E), w1[k]? = some q → q.1 < H.size ∧ ¬ va_A w2 H.size q.1 := by
    intro k q hq
    have hlt := (hP k q (hl k q hq)).lt
    refine ⟨hlt, fun h => ?_⟩
    rcases h with ⟨k2, e, h⟩ | h
    · have h3 : (w1 ++ w2)[w1.length + k2]? = some (q.1, e) := by rw [List.getElem?_append_right (by omega), Nat.add_sub_cancel_left]; exact h
      have := hD.1 _ _ _ _ (hl k q hq) h3 rfl
      have := (List.getElem?_eq_some_iff.mp hq).1
      omega
    · omega
  refine ⟨va_P.app (fun k q hq => ?_) hP1, va_D.app ⟨fun i j x y hx hy e => hD.1 i j x y (hl i x hx) (hl j y hy) e, fun k q hq => hD.2 k q (hl k q hq)⟩ (hD1.weaken (fun k q _ h => hF q.1 h)) (fun i j x y hx hy hxy => ?_)⟩
  · obtain ⟨g1, g2⟩ := apart k q hq
    exact (hP k q (hl k q hq)).kept (hk q.1 g1 g2)
  · exact (apart i x hx).2 (by rw [hxy]; exact hD1.2 j y hy)
theorem va_snd {A0 : Nat → Prop} {D : va_G} {cl : List vw_C} {w1 w2 : va_W} {H : Heap} (hP : va_P D cl (w1 ++ w2) H) (hD : va_D A0 (w1 ++ w2)) : va_P D cl w2 H ∧ va_D A0 w2 := by
  have hr : ∀ (k : Nat) (q : Nat × va_E), w2[k]? = some q → (w1 ++ w2)[w1.length + k]? = some q := fun k q h => by rw [List.getElem?_append_right (by omega), Nat.add_sub_cancel_left]; exact h
  exact ⟨fun k q h => hP _ q (hr k q h), fun i j x y hx hy e => by have := hD.1 _ _ x y (hr i x hx) (hr j y hy) e; omega, fun k q h => hD.2 _ q (hr k q h)⟩
theorem va_freeS {A0 : Nat → Prop} {w1 w2 : va_W} {H0 H : Heap} {locs : List Loc} (hD : va_D A0 (w1 ++ w2)) (hS : va_S A0 H0 H locs) (hA : ∀ q, H0.size ≤ q → A0 q) : ∀ q, va_A w2 H.size q → A0 q := by
  intro q h
  rcases h with ⟨k, e, h⟩ | h
  · exact hD.2 (w1.length + k) (q, e) (by rw [List.getElem?_append_right (by omega), Nat.add_sub_cancel_left]; exact h)
  · exact hA q (Nat.le_trans hS.1 h)
/-- the rows of a new bus: not called yet -/
def cf0 (j : Nat) : Nat → Int64 := fun k => if k < j then -1000 else 0
theorem cf0_s (j : Nat) : vp_updL (cf0 j) j (-1000) = cf0 (j + 1) := by
  funext k
  unfold vp_updL cf0
  by_cases h : k = j
  · subst h; simp
  · have : (k < j + 1) = (k < j) := by apply propext; omega
    simp [h, this]
theorem mx_0 (k : Nat) (h : k < 2 ^ 31) : (if (0 : Int32) < nI k then nI k else 0) = nI k := by
  by_cases hk : k = 0
  · subst hk; rfl
  · exact if_pos (nI_lt (a := 0) (by omega) h)
abbrev bus0 (h0 : Nat) : va_W := [(h0, .inr (0, [.null, .null, .int 0, .int 0]))]
abbrev busW (cN cL : ClassId) (h0 q1 q2 : Nat) (x : Int32) (k j : Nat) : va_W := [(h0, .inr (0, [.ref q1, .ref q2, .int x, .int 0])), (q1, .inl (cN, k, .inr (.inr (.inr (.inr (fun _ => none)))))), (q2, .inl (cL, 32, .inr (.inl (cf0 j))))]
set_option maxHeartbeats 4000000 in
set_option maxRecDepth 100000 in
theorem ct_B_init (l : Launch) (D : va_G) (cN cB cL : ClassId) (h0 : Nat) (x : Int32) {k : Nat} (hk : k ≤ 8) (sz : Nat) : Met l ky_B_init (km ky_B_init kc_B_init 4 none) ({ frames := 1, cells := 2, slots := 40, locals := 24 }) (va_Pc [.ref h0, .int x, .int (nI k)] (fun U => U.heap.size = sz ∧ va_AO "BusSleep$Node" U ∧ va_P D kCl (bus0 h0) U.heap ∧ va_K D kCl (tC cN cB cL) U ∧ va_D (fun _ => True) (bus0 h0))) (va_Qv (fun _ : Nat × Nat => True) (fun u t => va_P D kCl (busW cN cL h0 u.1 u.2 x k 32) t.heap ∧ va_K D kCl (tC cN cB cL) t ∧ va_D (va_A (bus0 h0) sz) (busW cN cL h0 u.1 u.2 x k 32)) (va_A (bus0 h0) sz)) 2 40 (va_A (bus0 h0) sz) := by
  refine Met.ofW (cc := kc_B_init) (maxL := 4) (ret := none) (by decide) rfl ?_
  intro p e s m args below meth c s₁ B hml hv
  obtain ⟨rfl, hsz, hAO, hP, hK, hD0⟩ := hv
  have hx := B.exec
  have hb := B.bytes
  have hr := B.returns
  have hts := atoms_spec (ws := km ky_B_init kc_B_init 4 none) B.pre
  have hT : ∀ w ∈ kB_l, w ∈ km ky_B_init kc_B_init 4 none := fun w h => List.mem_cons_of_mem _ h
  have hw := fun w h => hts w (hT w h)
  have hown : s.vm.findClass kR_B = some m.cls := findClass_of_methodNamed B.named
  have hlocks := B.notSynchronized
  have hin : meth.name = "<init>" := (name_of_methodNamed B.named B.method).1
  subst hsz
  have hD := hD0.self (sz := s.heap.size)
  generalize hAe : va_A (bus0 h0) s.heap.size = A at hD ⊢
  have hA : ∀ q : Nat, s.heap.size ≤ q → A q := fun q h => by rw [← hAe]; exact Or.inr h
  have hS : va_S A s.heap s.heap [] := va_S.rf
  have hl := lv_entry ([.ref h0, .int x, .int (nI k)]) (n := 4) (Nat.le_of_ble_eq_true rfl)
  rw [lg_entry_eq]
  generalize (lg_sl ([.ref h0, .int x, .int (nI k)]) ++ List.replicate (4 - (lg_sl ([.ref h0, .int x, .int (nI k)])).length) Slot.unset).toArray = ls at hl ⊢
  have hl : lv_has ls 4 [(0, .ref h0), (1, .int x), (2, .int (nI k))] := hl
  refine lv_aload_n hx hb kd_B_init_0 rfl (lv_at hl 0 rfl) ?_
  refine W.objInit hx hb hown (hw _ kw_26) (hw _ kw_13) (hw _ kw_14) rfl (by rw [hml]; exact hl.1) rfl kd_B_init_1 (Nat.le_of_ble_eq_true rfl) (Nat.le_of_ble_eq_true rfl) ?_
  refine W.eq (g2 := F0 m 4 ls []) rfl ?_
  refine lv_aload_n hx hb kd_B_init_4 rfl (lv_at hl 0 rfl) ?_
  refine lv_iload_n hx hb kd_B_init_5 rfl (lv_at hl 1 rfl) ?_
  refine va_put (D := (D)) (ci := 0) (v := .int x) (C := kR_B) (T := kT_B) (N := 4) hx hb hw ki_B kt_B ko_B kn_B hown hK hP hD hS 0 rfl rfl 2 (by decide) (hw _ kw_36) (fun _ h9 => h9) rfl (ko_B 2 (by decide)) rfl rfl (Nat.le_of_ble_eq_true rfl) kd_B_init_6 (fun H locs hP hD hS => ?_)
  have hP : va_P D kCl [(h0, .inr (0, [.null, .null, .int x, .int 0]))] H := hP
  have hD : va_D A [(h0, .inr (0, [.null, .null, .int x, .int 0]))] := hD
  refine lv_aload_n hx hb kd_B_init_9 rfl (lv_at hl 0 rfl) ?_
  refine lv_iconst (v := 0) hx hb kd_B_init_10 (by decide) ?_
  refine lv_iload_n hx hb kd_B_init_11 rfl (lv_at hl 2 rfl) ?_
  refine va_mmax hx hb (by rw [hml]; exact hl.1.symm) hown (hw _ kw_27) (hw _ kw_28) (hw _ kw_3) (hw _ kw_29) (Nat.le_of_ble_eq_true rfl) (Nat.le_of_ble_eq_true rfl) (Nat.zero_le _) (Nat.zero_le _) kd_B_init_12 ?_
  rw [mx_0 k (by omega)]
  refine va_newq (N' := k) hx hb hown (hw _ kw_30) hAO hK hP hD hS hA (nI_pos (by omega)) (nI_clamp (by omega)) (by omega) (Nat.le_of_ble_eq_true rfl) (show 0 + k ≤ 40 by omega) kd_B_init_15 (fun q1 cA H hK1 hP hD hS => ?_)
  obtain rfl : cA = cN := k_uni hK1 (i := 3) (j := 0) rfl rfl
  have hP : va_P D kCl [(h0, .inr (0, [.null, .null, .int x, .int 0])), (q1, .inl (cA, k, .inr (.inr (.inr (.inr (fun _ => none))))))] H := hP
  have hD : va_D A [(h0, .inr (0, [.null, .null, .int x, .int 0])), (q1, .inl (cA, k, .inr (.inr (.inr (.inr (fun _ => none))))))] := hD
  refine W.widen (k := 1) (n := 8) (by omega) (by omega) ?_
  refine va_putF (D := (D)) (ci := 0) (v := .ref q1) (C := kR_B) (T := kT_B) (N := 4) hx hb hw ki_B kt_B ko_B kn_B hown hK hP hD hS 0 rfl rfl 0 (by decide) (hw _ kw_32) (fun _ h9 => h9) rfl hin rfl (ko_B 0 (by decide)) rfl rfl (Nat.le_of_ble_eq_true rfl) kd_B_init_18 (fun H locs hP hD hS => ?_)
  have hP : va_P D kCl [(h0, .inr (0, [.ref q1, .null, .int x, .int 0])), (q1, .inl (cA, k, .inr (.inr (.inr (.inr (fun _ => none))))))] H := hP
  have hD : va_D A [(h0, .inr (0, [.ref q1, .null, .int x, .int 0])), (q1, .inl (cA, k, .inr (.inr (.inr (.inr (fun _ => none))))))] := hD
  refine lv_aload_n hx hb kd_B_init_21 rfl (lv_at hl 0 rfl) ?_
  refine lv_bipush (v := 32) hx hb kd_B_init_22 (by decide) ?_
  refine va_newa (atype := .long) (ty := .long) (N' := 32) (a0 := (32, .inr (.inl (cf0 0)))) hx hb (hw _ kw_48) rfl hK hP hD hS hA (fun _ => rfl) (by decide) rfl (by decide) (Nat.le_of_ble_eq_true rfl) (Nat.le_of_ble_eq_true rfl) kd_B_init_24 (fun q2 cA2 H hK2 hP hD hS => ?_)
  obtain rfl : cA2 = cL := k_uni hK2 (i := 3) (j := 2) rfl rfl
  have hP : va_P D kCl [(h0, .inr (0, [.ref q1, .null, .int x, .int 0])), (q1, .inl (cA, k, .inr (.inr (.inr (.inr (fun _ => none)))))), (q2, .inl (cA2, 32, .inr (.inl (cf0 0))))] H := hP
  have hD : va_D A [(h0, .inr (0, [.ref q1, .null, .int x, .int 0])), (q1, .inl (cA, k, .inr (.inr (.inr (.inr (fun _ => none)))))), (q2, .inl (cA2, 32, .inr (.inl (cf0 0))))] := hD
  refine W.widen (k := 2) (n := 40) (by omega) (by omega) ?_
  refine va_putF (D := (D)) (ci := 0) (v := .ref q2) (C := kR_B) (T := kT_B) (N := 4) hx hb hw ki_B kt_B ko_B kn_B hown hK hP hD hS 0 rfl rfl 1 (by decide) (hw _ kw_34) (fun _ h9 => h9) rfl hin rfl (ko_B 1 (by decide)) rfl rfl (Nat.le_of_ble_eq_true rfl) kd_B_init_26 (fun H locs hP hD hS => ?_)
  have hP : va_P D kCl (busW cA cA2 h0 q1 q2 x k 0) H := hP
  have hD : va_D A (busW cA cA2 h0 q1 q2 x k 0) := hD
  refine lv_iconst (v := 0) hx hb kd_B_init_29 (by decide) ?_
  refine lv_istore_n (lv' := [(3, .int 0), (0, .ref h0), (1, .int x), (2, .int (nI k))]) hx hb kd_B_init_30 rfl hl (by decide) rfl (fun ls hl => ?_)
  have loop : ∀ (q j : Nat) (H : Heap) (locs : List Loc) (ls : Array Slot), j ≤ 32 → 32 < j + q → va_P D kCl (busW cA cA2 h0 q1 q2 x k j) H → va_D A (busW cA cA2 h0 q1 q2 x k j) → va_S A s.heap H locs → lv_has ls 4 [(0, .ref h0), (3, .int (nI j))] → W p l e (headSpec (km ky_B_init kc_B_init 4 none) ({ frames := 1, cells := 2, slots := 40, locals := 24 })).room s m [.ref h0, .int x, .int (nI k)].toArray below meth c H locs 2 40 (MQ below (va_Qv (fun _ : Nat × Nat => True) (fun u t => va_P D kCl (busW cA cA2 h0 u.1 u.2 x k 32) t.heap ∧ va_K D kCl (tC cA cB cA2) t ∧ va_D A (busW cA cA2 h0 u.1 u.2 x k 32)) A) [.ref h0, .int x, .int (nI k)].toArray s 2 40 A) (F0 m 31 ls []) := by
    intro q
    induction q with
    | zero => intro j H locs ls h1 h2; exact absurd h2 (by omega)
    | succ q ih =>
      intro j H locs ls hj hq hP hD hS hl
      refine lv_iload_n hx hb kd_B_init_31 rfl (lv_at hl 1 rfl) ?_
      refine lv_bipush (v := 32) hx hb kd_B_init_32 (by decide) ?_
      refine lv_icmp_ge (tgt := 52) hx hb kd_B_init_34 (by decide) (fun c1 => ?_) (fun c1 => ?_)
      · have hje : j = 32 := lp_end (by decide) hj c1
        subst hje
        exact W.vret hx hb hr (fun t ht hW => ⟨⟨(q1, q2), rfl, trivial, by rw [ht]; exact hP, va_K.moved hW.alike hK, hD⟩, hS.F ht⟩) hS.2.2 kd_B_init_52
      · have hlt : j < 32 := lp_go (by decide) hj c1
        refine lv_aload_n hx hb kd_B_init_37 rfl (lv_at hl 0 rfl) ?_
        refine va_get (D := D) (ci := 0) (v := .ref q2) (C := kR_B) (T := kT_B) (N := 4) hx hb hw ki_B hown hK hP 0 rfl rfl 1 (by decide) (hw _ kw_34) (fun _ h9 => h9) rfl kd_B_init_38 ?_
        refine lv_iload_n hx hb kd_B_init_41 rfl (lv_at hl 1 rfl) ?_
        refine lv_ldc2 (v := (-1000)) hx hb hown (hw _ kw_31) kd_B_init_42 ?_
        refine va_last hx hb hK hP hD hS 2 2 rfl rfl (vp_in_nI hlt (by decide)) kd_B_init_45 (fun H locs hP hD hS => ?_)
        rw [nI_clamp (by omega), cf0_s] at hP hD
        refine lv_iinc (v := nI (j + 1)) (lv' := [(3, .int (nI (j + 1))), (0, .ref h0)]) hx hb kd_B_init_46 hl (k := 1) rfl (nI_1 j) (by decide) rfl (fun ls hl => ?_)
        refine lv_goto (tgt := 31) hx hb kd_B_init_49 (by decide) ?_
        exact ih (j + 1) _ _ _ hlt (by omega) hP hD hS (lv_sub hl [1, 0] rfl)
  exact loop 33 0 _ _ _ (by omega) (by omega) hP hD hS (lv_sub hl [1, 0] rfl)
abbrev nodD : List Value := [.int 0, .null, .int 0, .long 0, .long 0, .long 0, .int 0, .int 0, .int 0, .int 0]
abbrev nodN (x : Int32) (q : Nat) : List Value := [.int x, .ref q, .int 0, .long 0, .long 0, .long 0, .int 0, .int 0, .int 0, .int 0]
set_option maxHeartbeats 4000000 in
set_option maxRecDepth 100000 in
theorem ct_N_init (l : Launch) (D : va_G) (tys : List (ClassId × FieldType)) (h0 : Nat) (x : Int32) (q : Nat) (sz : Nat) : Met l ky_N_init (km ky_N_init kc_N_init 3 none) ({ frames := 1, cells := 0, slots := 0, locals := 12 }) (va_Pc [.ref h0, .int x, .ref q] (fun U => U.heap.size = sz ∧ va_P D kCl [(h0, .inr (1, nodD))] U.heap ∧ va_K D kCl tys U ∧ va_D (fun _ => True) [(h0, .inr (1, nodD))])) (va_Qv (fun _ : Unit => True) (fun _ t => va_P D kCl [(h0, .inr (1, nodN x q))] t.heap ∧ va_K D kCl tys t ∧ va_D (va_A [(h0, .inr (1, nodD))] sz) [(h0, .inr (1, nodN x q))]) (va_A [(h0, .inr (1, nodD))] sz)) 0 0 (va_A [(h0, .inr (1, nodD))] sz) := by
  refine Met.ofW (cc := kc_N_init) (maxL := 3) (ret := none) (by decide) rfl ?_
  intro p e s m args below meth c s₁ B hml hv
  obtain ⟨rfl, hsz, hP, hK, hD0⟩ := hv
  have hx := B.exec
  have hb := B.bytes
  have hr := B.returns
  have hts := atoms_spec (ws := km ky_N_init kc_N_init 3 none) B.pre
  have hT : ∀ w ∈ kB_l, w ∈ km ky_N_init kc_N_init 3 none := fun w h => List.mem_cons_of_mem _ h
  have hw := fun w h => hts w (hT w h)
  have hown : s.vm.findClass kR_N = some m.cls := findClass_of_methodNamed B.named
  have hlocks := B.notSynchronized
  have hin : meth.name = "<init>" := (name_of_methodNamed B.named B.method).1
  subst hsz
  have hD := hD0.self (sz := s.heap.size)
  generalize hAe : va_A [(h0, .inr (1, nodD))] s.heap.size = A at hD ⊢
  have hA : ∀ q : Nat, s.heap.size ≤ q → A q := fun q h => by rw [← hAe]; exact Or.inr h
  have hS : va_S A s.heap s.heap [] := va_S.rf
  have hl := lv_entry ([.ref h0, .int x, .ref q]) (n := 3) (Nat.le_of_ble_eq_true rfl)
  rw [lg_entry_eq]
  generalize (lg_sl ([.ref h0, .int x, .ref q]) ++ List.replicate (3 - (lg_sl ([.ref h0, .int x, .ref q])).length) Slot.unset).toArray = ls at hl ⊢
  have hl : lv_has ls 3 [(0, .ref h0), (1, .int x), (2, .ref q)] := hl
  refine lv_aload_n hx hb kd_N_init_0 rfl (lv_at hl 0 rfl) ?_
  refine W.objInit hx hb hown (hw _ kw_53) (hw _ kw_13) (hw _ kw_14) rfl (by rw [hml]; exact hl.1) rfl kd_N_init_1 (Nat.le_of_ble_eq_true rfl) (Nat.le_of_ble_eq_true rfl) ?_
  refine W.eq (g2 := F0 m 4 ls []) rfl ?_
  refine lv_aload_n hx hb kd_N_init_4 rfl (lv_at hl 0 rfl) ?_
  refine lv_iload_n hx hb kd_N_init_5 rfl (lv_at hl 1 rfl) ?_
  refine va_putF (D := (D)) (ci := 1) (v := .int x) (C := kR_N) (T := kT_N) (N := 10) hx hb hw ki_N kt_N ko_N kn_N hown hK hP hD hS 0 rfl rfl 0 (by decide) (hw _ kw_54) (fun _ h9 => h9) rfl hin rfl (ko_N 0 (by decide)) rfl rfl (Nat.le_of_ble_eq_true rfl) kd_N_init_6 (fun H locs hP hD hS => ?_)
  have hP : va_P D kCl [(h0, .inr (1, [.int x, .null, .int 0, .long 0, .long 0, .long 0, .int 0, .int 0, .int 0, .int 0]))] H := hP
  have hD : va_D A [(h0, .inr (1, [.int x, .null, .int 0, .long 0, .long 0, .long 0, .int 0, .int 0, .int 0, .int 0]))] := hD
  refine lv_aload_n hx hb kd_N_init_9 rfl (lv_at hl 0 rfl) ?_
  refine lv_aload_n hx hb kd_N_init_10 rfl (lv_at hl 2 rfl) ?_
  refine va_putF (D := (D)) (ci := 1) (v := .ref q) (C := kR_N) (T := kT_N) (N := 10) hx hb hw ki_N kt_N ko_N kn_N hown hK hP hD hS 0 rfl rfl 1 (by decide) (hw _ kw_56) (fun _ h9 => h9) rfl hin rfl (ko_N 1 (by decide)) rfl rfl (Nat.le_of_ble_eq_true rfl) kd_N_init_11 (fun H locs hP hD hS => ?_)
  have hP : va_P D kCl [(h0, .inr (1, nodN x q))] H := hP
  have hD : va_D A [(h0, .inr (1, nodN x q))] := hD
  exact W.vret hx hb hr (fun t ht hW => ⟨⟨(), rfl, trivial, by rw [ht]; exact hP, va_K.moved hW.alike hK, hD⟩, hS.F ht⟩) hS.2.2 kd_N_init_14
