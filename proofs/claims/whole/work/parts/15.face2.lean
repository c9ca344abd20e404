/-- one of a node's bits was called on one of its buses -/
abbrev ndC (n : Nat) (σ : CS) (i : Nat) : Prop := ∃ b, b < nbs n ∧ (σ.2.1 b).1 = (σ.2.1 (i / 8)).1 ∧ wcl σ b (σ.1 i).2.2.2.2.2.2.2
set_option maxHeartbeats 4000000 in
set_option maxRecDepth 100000 in
theorem ct_S_needs (l : Launch) (D : va_G) {n : Nat} (hn : 1 ≤ n ∧ n ≤ 64) (ad : Nat × Nat → Nat) (cN cB cL : ClassId) (σ : CS) (k : Int32) (t : Int64) {a : Nat} (ha : σ.2.2.1 = lN a) (hA : a < 2 ^ 30) (sz : Nat) : Met l ky_S_needs (km ky_S_needs kc_S_needs 9 (some .int)) ({ frames := 7, cells := 0, slots := 0, locals := 158 }) (cPre D n ad cN cB cL σ [.ref (ad (0, 0)), .int k, .long t] sz) (cQi D n ad cN cB cL sz (fun r τ => ndP n k (fun i => (okT σ.2.2.1 t → goT n σ t = τ ∧ ((r = 1 ∧ ndC n τ i) ∨ (r = 0 ∧ ¬ ndC n τ i))) ∧ (¬ okT σ.2.2.1 t → (r, τ) = (-2, σ))) ((r, τ) = (-1, σ)))) 0 0 (kA (kC n) ad sz) := by
  refine Met.ofW (cc := kc_S_needs) (maxL := 9) (ret := (some .int)) (by decide) rfl ?_
  intro p e s m args below meth c s₁ B hml hv
  obtain ⟨rfl, hsz, hP, hK, hD0⟩ := hv
  have hx := B.exec
  have hb := B.bytes
  have hr := B.returns
  have hts := atoms_spec (ws := km ky_S_needs kc_S_needs 9 (some .int)) B.pre
  have hT : ∀ w ∈ kB_l, w ∈ km ky_S_needs kc_S_needs 9 (some .int) := fun w h => List.mem_cons_of_mem _ h
  have hw := fun w h => hts w (hT w h)
  have hown : s.vm.findClass kR_S = some m.cls := findClass_of_methodNamed B.named
  have hlocks := B.notSynchronized
  subst hsz
  have hD : va_D (kA (kC n) ad s.heap.size) (kW (kC n) ad (gC n ad cN cB cL σ)) := kD_any _ hD0
  have hS : va_S (kA (kC n) ad s.heap.size) s.heap s.heap [] := va_S.rf
  have hl := lv_entry ([.ref (ad (0, 0)), .int k, .long t]) (n := 9) (Nat.le_of_ble_eq_true rfl)
  rw [lg_entry_eq]
  generalize (lg_sl ([.ref (ad (0, 0)), .int k, .long t]) ++ List.replicate (9 - (lg_sl ([.ref (ad (0, 0)), .int k, .long t])).length) Slot.unset).toArray = ls at hl ⊢
  have hl : lv_has ls 9 [(0, .ref (ad (0, 0))), (1, .int k), (2, .long t)] := hl
  refine lv_aload_n hx hb kd_S_needs_0 rfl (lv_at hl 0 rfl) ?_
  refine lv_iload_n hx hb kd_S_needs_1 rfl (lv_at hl 1 rfl) ?_
  refine kx_Vi (G := gC n ad cN cB cL) (σ := σ) (κ := (0, 0)) (ci := 2) (fs := thisL ad σ) (As := [.int k]) (rest := []) (n := 1) hx hb hml hown hts hT (ct_S_isNode l D hn ad cN cB cL σ k s.heap.size) kw_107 kw_109 ks_0 kw_1 kw_110 (by decide +kernel) ⟨rfl, rfl⟩ ⟨Nat.le_of_ble_eq_true rfl, Nat.le_of_ble_eq_true rfl⟩ hK hP hD hS kC_0 rfl rfl rfl hl.1 (Nat.le_of_ble_eq_true rfl) kd_S_needs_2 rfl ⟨Nat.zero_le _, Nat.zero_le _⟩ (fun r_1 τ2 H locs hq3 hP hD hS => ?_)
  obtain ⟨⟨rfl, i, hi, hk⟩ | ⟨rfl, hno⟩, rfl⟩ := hq3
  · refine lv_if_ne (tgt := 10) hx hb kd_S_needs_5 (by decide) (fun _ => ?_) (fun c0 => absurd c0 (by decide))
    refine lv_aload_n hx hb kd_S_needs_10 rfl (lv_at hl 0 rfl) ?_
    refine lv_lload_n hx hb kd_S_needs_11 rfl (lv_at hl 2 rfl) ?_
    refine kx_Vi (G := gC n ad cN cB cL) (σ := σ) (κ := (0, 0)) (ci := 2) (fs := thisL ad σ) (As := [.long t]) (rest := []) (n := 1) hx hb hml hown hts hT (ct_S_isTime l D hn ad cN cB cL σ t H.size) kw_135 kw_137 ks_3 kw_1 kw_138 (by decide +kernel) ⟨rfl, rfl⟩ ⟨Nat.le_of_ble_eq_true rfl, Nat.le_of_ble_eq_true rfl⟩ hK hP hD hS kC_0 rfl rfl rfl hl.1 (Nat.le_of_ble_eq_true rfl) kd_S_needs_12 rfl ⟨Nat.zero_le _, Nat.zero_le _⟩ (fun r_4 τ5 H locs hq6 hP hD hS => ?_)
    obtain ⟨⟨rfl, q_7⟩ | ⟨rfl, q_7⟩, rfl⟩ := hq6
    · refine lv_if_ne (tgt := 21) hx hb kd_S_needs_15 (by decide) (fun _ => ?_) (fun c0 => absurd c0 (by decide))
      refine lv_aload_n hx hb kd_S_needs_21 rfl (lv_at hl 0 rfl) ?_
      refine lv_lload_n hx hb kd_S_needs_22 rfl (lv_at hl 2 rfl) ?_
      refine kx_Vv (G := gC n ad cN cB cL) (σ := σ) (κ := (0, 0)) (ci := 2) (fs := thisL ad σ) (As := [.long t]) (rest := []) (n := 1) hx hb hml hown hts hT (ct_S_goOn l D hn ad cN cB cL σ t q_7 ha hA H.size) kw_140 kw_142 ks_4 kw_1 kw_143 (by decide +kernel) ⟨rfl, rfl⟩ ⟨Nat.le_of_ble_eq_true rfl, Nat.le_of_ble_eq_true rfl⟩ hK hP hD hS kC_0 rfl rfl rfl hl.1 (Nat.le_of_ble_eq_true rfl) kd_S_needs_23 rfl ⟨Nat.zero_le _, Nat.zero_le _⟩ (fun τ9 H locs hq10 hP hD hS => ?_)
      have hτ9 := hq10
      refine lv_aload_n hx hb kd_S_needs_26 rfl (lv_at hl 0 rfl) ?_
      refine kx_get (ci := 2) (fs := thisL ad τ9) (v := .ref (ad (1, 0))) hx hb hw ki_S hown hK hP kC_0 rfl rfl 0 (by decide) kw_90 rfl rfl kd_S_needs_27 ?_
      refine lv_iload_n hx hb kd_S_needs_30 rfl (lv_at hl 1 rfl) ?_
      refine lv_iconst (v := 1) hx hb kd_S_needs_31 (by decide) ?_
      refine lv_isub hx hb kd_S_needs_32 ?_
      refine kx_aald (i := i) hx hb hK hP kC_1 0 rfl rfl (by rw [hk]; exact nI_pred i) hi (by omega) rfl kd_S_needs_33 ?_
      refine lv_astore (lv' := [(4, .ref (ad (3, i))), (0, .ref (ad (0, 0))), (1, .int k), (2, .long t)]) hx hb kd_S_needs_34 hl (by decide) rfl (fun ls hl => ?_)
      refine lv_aload_n hx hb kd_S_needs_36 rfl (lv_at hl 1 rfl) ?_
      refine kx_get (ci := 2) (fs := thisL ad τ9) (v := .ref (ad (2, 0))) hx hb hw ki_S hown hK hP kC_0 rfl rfl 1 (by decide) kw_91 rfl rfl kd_S_needs_37 ?_
      refine lv_astore (lv' := [(5, .ref (ad (2, 0))), (4, .ref (ad (3, i))), (0, .ref (ad (0, 0))), (1, .int k), (2, .long t)]) hx hb kd_S_needs_40 hl (by decide) rfl (fun ls hl => ?_)
      refine lv_aload hx hb kd_S_needs_42 (lv_at hl 0 rfl) ?_
      refine kx_alen (n := nbs n) hx hb hK hP kC_2 1 rfl rfl kd_S_needs_44 ?_
      refine lv_istore (lv' := [(6, .int (nI (nbs n))), (5, .ref (ad (2, 0))), (4, .ref (ad (3, i))), (0, .ref (ad (0, 0))), (1, .int k), (2, .long t)]) hx hb kd_S_needs_45 hl (by decide) rfl (fun ls hl => ?_)
      refine lv_iconst (v := 0) hx hb kd_S_needs_47 (by decide) ?_
      refine lv_istore (lv' := [(7, .int 0), (6, .int (nI (nbs n))), (5, .ref (ad (2, 0))), (4, .ref (ad (3, i))), (0, .ref (ad (0, 0))), (1, .int k), (2, .long t)]) hx hb kd_S_needs_48 hl (by decide) rfl (fun ls hl => ?_)
      have loop : ∀ (q j : Nat) (ρj : CS)  (H : Heap) (locs : List Loc) (ls : Array Slot), j ≤ nbs n → nbs n < j + q → (τ9 = ρj ∧ ∀ b, b < j → (τ9.2.1 b).1 = (τ9.2.1 (i / 8)).1 → ¬ wcl τ9 b (τ9.1 i).2.2.2.2.2.2.2) → va_P D kCl (kW (kC n) ad (gC n ad cN cB cL ρj)) H → va_D (kA (kC n) ad s.heap.size) (kW (kC n) ad (gC n ad cN cB cL ρj)) → va_S (kA (kC n) ad s.heap.size) s.heap H locs → lv_has ls 9 [(0, .ref (ad (0, 0))), (1, .int k), (2, .long t), (4, .ref (ad (3, i))), (5, .ref (ad (2, 0))), (6, .int (nI (nbs n))), (7, .int (nI j))] → W p l e (headSpec (km ky_S_needs kc_S_needs 9 (some .int)) ({ frames := 7, cells := 0, slots := 0, locals := 158 })).room s m [.ref (ad (0, 0)), .int k, .long t].toArray below meth c H locs 0 0 (MQ below (cQi D n ad cN cB cL s.heap.size (fun r τ => ndP n k (fun i => (okT σ.2.2.1 t → goT n σ t = τ ∧ ((r = 1 ∧ ndC n τ i) ∨ (r = 0 ∧ ¬ ndC n τ i))) ∧ (¬ okT σ.2.2.1 t → (r, τ) = (-2, σ))) ((r, τ) = (-1, σ)))) [.ref (ad (0, 0)), .int k, .long t].toArray s 0 0 (kA (kC n) ad s.heap.size)) (F0 m 50 ls []) := by
        intro q
        induction q with
        | zero => intro j ρj  H locs ls hj_j hq_j; exact absurd hq_j (by omega)
        | succ q ih_j =>
          intro j ρj  H locs ls hj_j hq_j hI_j hP hD hS hl
          obtain ⟨rfl, hI_j⟩ := hI_j
          refine lv_iload hx hb kd_S_needs_50 (lv_at hl 6 rfl) ?_
          refine lv_iload hx hb kd_S_needs_52 (lv_at hl 5 rfl) ?_
          refine lv_icmp_ge (tgt := 102) hx hb kd_S_needs_54 (by decide) (fun c_11 => ?_) (fun c_11 => ?_)
          · have hje_j : j = nbs n := lp_end (by unfold nbs; omega) hj_j c_11
            refine lv_iconst (v := 0) hx hb kd_S_needs_102 (by decide) ?_
            exact W.iret (v := 0) hx hb hr (fun t ht hW => ⟨⟨0, τ9, rfl, ndP_y hn.2 hi hk ⟨fun _ => ⟨hτ9, Or.inr ⟨rfl, fun ⟨b, z1, z2, z3⟩ => hI_j b (by omega) z2 z3⟩⟩, fun z => absurd q_7 z⟩, by rw [ht]; exact hP, va_K.moved hW.alike hK, hD.weaken (fun _ _ _ _ => trivial)⟩, hS.F ht⟩) hS.2.2 kd_S_needs_103
          · have hlt_j : j < nbs n := lp_go (by unfold nbs; omega) hj_j c_11
            refine lv_aload hx hb kd_S_needs_57 (lv_at hl 4 rfl) ?_
            refine lv_iload hx hb kd_S_needs_59 (lv_at hl 6 rfl) ?_
            refine kx_aald (i := j) hx hb hK hP kC_2 1 rfl rfl rfl hlt_j (by unfold nbs; omega) rfl kd_S_needs_61 ?_
            refine lv_astore (lv' := [(8, .ref (ad (4, j))), (0, .ref (ad (0, 0))), (1, .int k), (2, .long t), (4, .ref (ad (3, i))), (5, .ref (ad (2, 0))), (6, .int (nI (nbs n))), (7, .int (nI j))]) hx hb kd_S_needs_62 hl (by decide) rfl (fun ls hl => ?_)
            refine lv_aload hx hb kd_S_needs_64 (lv_at hl 0 rfl) ?_
            refine kx_get (ci := 0) (fs := busL ad j (τ9.2.1 j)) (v := .int ((τ9.2.1 j).1)) hx hb hw ki_B hown hK hP (kC_4 hlt_j) rfl rfl 2 (by decide) kw_37 rfl rfl kd_S_needs_66 ?_
            refine lv_aload hx hb kd_S_needs_69 (lv_at hl 4 rfl) ?_
            refine kx_get (ci := 1) (fs := nodeL ad i (τ9.1 i)) (v := .ref (ad (4, i / 8))) hx hb hw ki_N hown hK hP (kC_3 hi) rfl rfl 1 (by decide) kw_57 rfl rfl kd_S_needs_71 ?_
            refine kx_get (ci := 0) (fs := busL ad (i / 8) (τ9.2.1 (i / 8))) (v := .int ((τ9.2.1 (i / 8)).1)) hx hb hw ki_B hown hK hP (kC_4 (nbs_of hi)) rfl rfl 2 (by decide) kw_37 rfl rfl kd_S_needs_74 ?_
            refine lv_icmp_ne (tgt := 96) hx hb kd_S_needs_77 (by decide) (fun c_12 => ?_) (fun c_12 => ?_)
            · refine lv_iinc (v := nI (j + 1)) (lv' := [(7, .int (nI (j + 1))), (8, .ref (ad (4, j))), (0, .ref (ad (0, 0))), (1, .int k), (2, .long t), (4, .ref (ad (3, i))), (5, .ref (ad (2, 0))), (6, .int (nI (nbs n)))]) hx hb kd_S_needs_96 hl (k := 7) rfl (nI_1 j) (by decide) rfl (fun ls hl => ?_)
              refine lv_goto (tgt := 50) hx hb kd_S_needs_99 (by decide) ?_
              exact ih_j (j + 1) τ9  _ _ _ hlt_j (by omega) ⟨rfl, lt_s hI_j (fun e => absurd e c_12)⟩ hP hD hS (lv_sub hl [2, 3, 4, 5, 6, 7, 0] rfl)
            · refine lv_aload_n hx hb kd_S_needs_80 rfl (lv_at hl 1 rfl) ?_
              refine lv_aload hx hb kd_S_needs_81 (lv_at hl 0 rfl) ?_
              refine lv_aload hx hb kd_S_needs_83 (lv_at hl 4 rfl) ?_
              refine kx_get (ci := 1) (fs := nodeL ad i (τ9.1 i)) (v := .int ((τ9.1 i).2.2.2.2.2.2.2)) hx hb hw ki_N hown hK hP (kC_3 hi) rfl rfl 9 (by decide) kw_68 rfl rfl kd_S_needs_85 ?_
              refine kx_Vi (G := gC n ad cN cB cL) (σ := τ9) (κ := (0, 0)) (ci := 2) (fs := thisL ad τ9) (As := [.ref (ad (4, j)), .int ((τ9.1 i).2.2.2.2.2.2.2)]) (rest := []) (n := 2) hx hb hml hown hts hT (ct_S_wasCalled l D hn ad cN cB cL τ9 hlt_j ((τ9.1 i).2.2.2.2.2.2.2) H.size) kw_206 kw_208 ks_12 kw_1 kw_209 (by decide +kernel) ⟨rfl, rfl⟩ ⟨Nat.le_of_ble_eq_true rfl, Nat.le_of_ble_eq_true rfl⟩ hK hP hD hS kC_0 rfl rfl rfl hl.1 (Nat.le_of_ble_eq_true rfl) kd_S_needs_88 rfl ⟨Nat.zero_le _, Nat.zero_le _⟩ (fun r_13 τ14 H locs hq15 hP hD hS => ?_)
              obtain ⟨⟨rfl, q_16⟩ | ⟨rfl, q_16⟩, rfl⟩ := hq15
              · refine lv_if_eq (tgt := 96) hx hb kd_S_needs_91 (by decide) (fun c0 => absurd c0 (by decide)) (fun _ => ?_)
                refine lv_iconst (v := 1) hx hb kd_S_needs_94 (by decide) ?_
                exact W.iret (v := 1) hx hb hr (fun t ht hW => ⟨⟨1, τ9, rfl, ndP_y hn.2 hi hk ⟨fun _ => ⟨hτ9, Or.inl ⟨rfl, j, hlt_j, c_12, q_16⟩⟩, fun z => absurd q_7 z⟩, by rw [ht]; exact hP, va_K.moved hW.alike hK, hD.weaken (fun _ _ _ _ => trivial)⟩, hS.F ht⟩) hS.2.2 kd_S_needs_95
              · refine lv_if_eq (tgt := 96) hx hb kd_S_needs_91 (by decide) (fun _ => ?_) (fun c0 => absurd (by decide) c0)
                refine lv_iinc (v := nI (j + 1)) (lv' := [(7, .int (nI (j + 1))), (8, .ref (ad (4, j))), (0, .ref (ad (0, 0))), (1, .int k), (2, .long t), (4, .ref (ad (3, i))), (5, .ref (ad (2, 0))), (6, .int (nI (nbs n)))]) hx hb kd_S_needs_96 hl (k := 7) rfl (nI_1 j) (by decide) rfl (fun ls hl => ?_)
                refine lv_goto (tgt := 50) hx hb kd_S_needs_99 (by decide) ?_
                exact ih_j (j + 1) τ9  _ _ _ hlt_j (by omega) ⟨rfl, lt_s hI_j (fun e => q_16)⟩ hP hD hS (lv_sub hl [2, 3, 4, 5, 6, 7, 0] rfl)
      exact loop (nbs n + 1) 0 τ9  _ _ _ (Nat.zero_le _) (by omega) ⟨rfl, lt_0⟩ hP hD hS (lv_sub hl [4, 5, 6, 3, 2, 1, 0] rfl)
    · refine lv_if_ne (tgt := 21) hx hb kd_S_needs_15 (by decide) (fun c0 => absurd rfl c0) (fun _ => ?_)
      refine lv_bipush (v := (-2)) hx hb kd_S_needs_18 (by decide) ?_
      exact W.iret (v := (-2)) hx hb hr (fun t ht hW => ⟨⟨(-2), σ, rfl, ndP_y hn.2 hi hk ⟨fun z => absurd z q_7, fun _ => rfl⟩, by rw [ht]; exact hP, va_K.moved hW.alike hK, hD.weaken (fun _ _ _ _ => trivial)⟩, hS.F ht⟩) hS.2.2 kd_S_needs_20
  · refine lv_if_ne (tgt := 10) hx hb kd_S_needs_5 (by decide) (fun c0 => absurd rfl c0) (fun _ => ?_)
    refine lv_iconst (v := (-1)) hx hb kd_S_needs_8 (by decide) ?_
    exact W.iret (v := (-1)) hx hb hr (fun t ht hW => ⟨⟨(-1), σ, rfl, ndP_n hno rfl, by rw [ht]; exact hP, va_K.moved hW.alike hK, hD.weaken (fun _ _ _ _ => trivial)⟩, hS.F ht⟩) hS.2.2 kd_S_needs_9
/-- the buses that bear the label y get the label x; how many bear x then -/
def coL (x y : Int32) (σ : CS) : Nat → CS × Int32
  | 0 => (σ, 0)
  | k + 1 =>
    let s1 : CS := if ((coL x y σ k).1.2.1 k).1 = y then setB (coL x y σ k).1 k (x, ((coL x y σ k).1.2.1 k).2.1, ((coL x y σ k).1.2.1 k).2.2) else (coL x y σ k).1
    (s1, if (s1.2.1 k).1 = x then (coL x y σ k).2 + 1 else (coL x y σ k).2)
def coF (n : Nat) (σ : CS) (a b : Nat) : Int32 × CS :=
  if a = b then (-2, σ) else ((coL (σ.2.1 a).1 (σ.2.1 b).1 σ (nbs n)).2, (coL (σ.2.1 a).1 (σ.2.1 b).1 σ (nbs n)).1)
set_option maxHeartbeats 4000000 in
set_option maxRecDepth 100000 in
theorem ct_S_coordinate (l : Launch) (D : va_G) {n : Nat} (hn : 1 ≤ n ∧ n ≤ 64) (ad : Nat × Nat → Nat) (cN cB cL : ClassId) (σ : CS) (k k2 : Int32) (sz : Nat) : Met l ky_S_coordinate (km ky_S_coordinate kc_S_coordinate 10 (some .int)) ({ frames := 1, cells := 0, slots := 0, locals := 21 }) (cPre D n ad cN cB cL σ [.ref (ad (0, 0)), .int k, .int k2] sz) (cQi D n ad cN cB cL sz (fun r τ => ndP (nbs n) k (fun u => ndP (nbs n) k2 (fun v => (r, τ) = coF n σ u v) ((r, τ) = (-1, σ))) ((r, τ) = (-1, σ)))) 0 0 (kA (kC n) ad sz) := by
  refine Met.ofW (cc := kc_S_coordinate) (maxL := 10) (ret := (some .int)) (by decide) rfl ?_
  intro p e s m args below meth c s₁ B hml hv
  obtain ⟨rfl, hsz, hP, hK, hD0⟩ := hv
  have hx := B.exec
  have hb := B.bytes
  have hr := B.returns
  have hts := atoms_spec (ws := km ky_S_coordinate kc_S_coordinate 10 (some .int)) B.pre
  have hT : ∀ w ∈ kB_l, w ∈ km ky_S_coordinate kc_S_coordinate 10 (some .int) := fun w h => List.mem_cons_of_mem _ h
  have hw := fun w h => hts w (hT w h)
  have hown : s.vm.findClass kR_S = some m.cls := findClass_of_methodNamed B.named
  have hlocks := B.notSynchronized
  subst hsz
  have hD : va_D (kA (kC n) ad s.heap.size) (kW (kC n) ad (gC n ad cN cB cL σ)) := kD_any _ hD0
  have hS : va_S (kA (kC n) ad s.heap.size) s.heap s.heap [] := va_S.rf
  have hl := lv_entry ([.ref (ad (0, 0)), .int k, .int k2]) (n := 10) (Nat.le_of_ble_eq_true rfl)
  rw [lg_entry_eq]
  generalize (lg_sl ([.ref (ad (0, 0)), .int k, .int k2]) ++ List.replicate (10 - (lg_sl ([.ref (ad (0, 0)), .int k, .int k2])).length) Slot.unset).toArray = ls at hl ⊢
  have hl : lv_has ls 10 [(0, .ref (ad (0, 0))), (1, .int k), (2, .int k2)] := hl
  refine lv_aload_n hx hb kd_S_coordinate_0 rfl (lv_at hl 0 rfl) ?_
  refine lv_iload_n hx hb kd_S_coordinate_1 rfl (lv_at hl 1 rfl) ?_
  refine kx_Vi (G := gC n ad cN cB cL) (σ := σ) (κ := (0, 0)) (ci := 2) (fs := thisL ad σ) (As := [.int k]) (rest := []) (n := 1) hx hb hml hown hts hT (ct_S_isBus l D hn ad cN cB cL σ k s.heap.size) kw_214 kw_216 ks_13 kw_1 kw_217 (by decide +kernel) ⟨rfl, rfl⟩ ⟨Nat.le_of_ble_eq_true rfl, Nat.le_of_ble_eq_true rfl⟩ hK hP hD hS kC_0 rfl rfl rfl hl.1 (Nat.le_of_ble_eq_true rfl) kd_S_coordinate_2 rfl ⟨Nat.zero_le _, Nat.zero_le _⟩ (fun r_1 τ2 H locs hq3 hP hD hS => ?_)
  obtain ⟨⟨rfl, u, hu, hku⟩ | ⟨rfl, hnou⟩, rfl⟩ := hq3
  · refine lv_if_eq (tgt := 16) hx hb kd_S_coordinate_5 (by decide) (fun c0 => absurd c0 (by decide)) (fun _ => ?_)
    refine lv_aload_n hx hb kd_S_coordinate_8 rfl (lv_at hl 0 rfl) ?_
    refine lv_iload_n hx hb kd_S_coordinate_9 rfl (lv_at hl 2 rfl) ?_
    refine kx_Vi (G := gC n ad cN cB cL) (σ := σ) (κ := (0, 0)) (ci := 2) (fs := thisL ad σ) (As := [.int k2]) (rest := []) (n := 1) hx hb hml hown hts hT (ct_S_isBus l D hn ad cN cB cL σ k2 H.size) kw_214 kw_216 ks_13 kw_1 kw_217 (by decide +kernel) ⟨rfl, rfl⟩ ⟨Nat.le_of_ble_eq_true rfl, Nat.le_of_ble_eq_true rfl⟩ hK hP hD hS kC_0 rfl rfl rfl hl.1 (Nat.le_of_ble_eq_true rfl) kd_S_coordinate_10 rfl ⟨Nat.zero_le _, Nat.zero_le _⟩ (fun r_4 τ5 H locs hq6 hP hD hS => ?_)
    obtain ⟨⟨rfl, v, hv, hkv⟩ | ⟨rfl, hnov⟩, rfl⟩ := hq6
    · refine lv_if_ne (tgt := 18) hx hb kd_S_coordinate_13 (by decide) (fun _ => ?_) (fun c0 => absurd c0 (by decide))
      refine lv_iload_n hx hb kd_S_coordinate_18 rfl (lv_at hl 1 rfl) ?_
      refine lv_iload_n hx hb kd_S_coordinate_19 rfl (lv_at hl 2 rfl) ?_
      refine lv_icmp_ne (tgt := 26) hx hb kd_S_coordinate_20 (by decide) (fun c_7 => ?_) (fun c_7 => ?_)
      · refine lv_aload_n hx hb kd_S_coordinate_26 rfl (lv_at hl 0 rfl) ?_
        refine kx_get (ci := 2) (fs := thisL ad σ) (v := .ref (ad (2, 0))) hx hb hw ki_S hown hK hP kC_0 rfl rfl 1 (by decide) kw_91 rfl rfl kd_S_coordinate_27 ?_
        refine lv_iload_n hx hb kd_S_coordinate_30 rfl (lv_at hl 1 rfl) ?_
        refine lv_iconst (v := 1) hx hb kd_S_coordinate_31 (by decide) ?_
        refine lv_isub hx hb kd_S_coordinate_32 ?_
        refine kx_aald (i := u) hx hb hK hP kC_2 1 rfl rfl (by rw [hku]; exact nI_pred u) hu (by unfold nbs; omega) rfl kd_S_coordinate_33 ?_
        refine kx_get (ci := 0) (fs := busL ad u (σ.2.1 u)) (v := .int ((σ.2.1 u).1)) hx hb hw ki_B hown hK hP (kC_4 hu) rfl rfl 2 (by decide) kw_37 rfl rfl kd_S_coordinate_34 ?_
        refine lv_istore_n (lv' := [(3, .int ((σ.2.1 u).1)), (0, .ref (ad (0, 0))), (1, .int k), (2, .int k2)]) hx hb kd_S_coordinate_37 rfl hl (by decide) rfl (fun ls hl => ?_)
        refine lv_aload_n hx hb kd_S_coordinate_38 rfl (lv_at hl 1 rfl) ?_
        refine kx_get (ci := 2) (fs := thisL ad σ) (v := .ref (ad (2, 0))) hx hb hw ki_S hown hK hP kC_0 rfl rfl 1 (by decide) kw_91 rfl rfl kd_S_coordinate_39 ?_
        refine lv_iload_n hx hb kd_S_coordinate_42 rfl (lv_at hl 3 rfl) ?_
        refine lv_iconst (v := 1) hx hb kd_S_coordinate_43 (by decide) ?_
        refine lv_isub hx hb kd_S_coordinate_44 ?_
        refine kx_aald (i := v) hx hb hK hP kC_2 1 rfl rfl (by rw [hkv]; exact nI_pred v) hv (by unfold nbs; omega) rfl kd_S_coordinate_45 ?_
        refine kx_get (ci := 0) (fs := busL ad v (σ.2.1 v)) (v := .int ((σ.2.1 v).1)) hx hb hw ki_B hown hK hP (kC_4 hv) rfl rfl 2 (by decide) kw_37 rfl rfl kd_S_coordinate_46 ?_
        refine lv_istore (lv' := [(4, .int ((σ.2.1 v).1)), (3, .int ((σ.2.1 u).1)), (0, .ref (ad (0, 0))), (1, .int k), (2, .int k2)]) hx hb kd_S_coordinate_49 hl (by decide) rfl (fun ls hl => ?_)
        refine lv_iconst (v := 0) hx hb kd_S_coordinate_51 (by decide) ?_
        refine lv_istore (lv' := [(5, .int 0), (4, .int ((σ.2.1 v).1)), (3, .int ((σ.2.1 u).1)), (0, .ref (ad (0, 0))), (1, .int k), (2, .int k2)]) hx hb kd_S_coordinate_52 hl (by decide) rfl (fun ls hl => ?_)
        refine lv_aload_n hx hb kd_S_coordinate_54 rfl (lv_at hl 3 rfl) ?_
        refine kx_get (ci := 2) (fs := thisL ad σ) (v := .ref (ad (2, 0))) hx hb hw ki_S hown hK hP kC_0 rfl rfl 1 (by decide) kw_91 rfl rfl kd_S_coordinate_55 ?_
        refine lv_astore (lv' := [(6, .ref (ad (2, 0))), (5, .int 0), (4, .int ((σ.2.1 v).1)), (3, .int ((σ.2.1 u).1)), (0, .ref (ad (0, 0))), (1, .int k), (2, .int k2)]) hx hb kd_S_coordinate_58 hl (by decide) rfl (fun ls hl => ?_)
        refine lv_aload hx hb kd_S_coordinate_60 (lv_at hl 0 rfl) ?_
        refine kx_alen (n := nbs n) hx hb hK hP kC_2 1 rfl rfl kd_S_coordinate_62 ?_
        refine lv_istore (lv' := [(7, .int (nI (nbs n))), (6, .ref (ad (2, 0))), (5, .int 0), (4, .int ((σ.2.1 v).1)), (3, .int ((σ.2.1 u).1)), (0, .ref (ad (0, 0))), (1, .int k), (2, .int k2)]) hx hb kd_S_coordinate_63 hl (by decide) rfl (fun ls hl => ?_)
        refine lv_iconst (v := 0) hx hb kd_S_coordinate_65 (by decide) ?_
        refine lv_istore (lv' := [(8, .int 0), (7, .int (nI (nbs n))), (6, .ref (ad (2, 0))), (5, .int 0), (4, .int ((σ.2.1 v).1)), (3, .int ((σ.2.1 u).1)), (0, .ref (ad (0, 0))), (1, .int k), (2, .int k2)]) hx hb kd_S_coordinate_66 hl (by decide) rfl (fun ls hl => ?_)
        have loop : ∀ (q j : Nat) (ρj : CS) (x5 : Int32) (H : Heap) (locs : List Loc) (ls : Array Slot), j ≤ nbs n → nbs n < j + q → ((ρj, x5) = coL (σ.2.1 u).1 (σ.2.1 v).1 σ j) → va_P D kCl (kW (kC n) ad (gC n ad cN cB cL ρj)) H → va_D (kA (kC n) ad s.heap.size) (kW (kC n) ad (gC n ad cN cB cL ρj)) → va_S (kA (kC n) ad s.heap.size) s.heap H locs → lv_has ls 10 [(0, .ref (ad (0, 0))), (3, .int ((σ.2.1 u).1)), (4, .int ((σ.2.1 v).1)), (6, .ref (ad (2, 0))), (7, .int (nI (nbs n))), (5, .int x5), (8, .int (nI j))] → W p l e (headSpec (km ky_S_coordinate kc_S_coordinate 10 (some .int)) ({ frames := 1, cells := 0, slots := 0, locals := 21 })).room s m [.ref (ad (0, 0)), .int k, .int k2].toArray below meth c H locs 0 0 (MQ below (cQi D n ad cN cB cL s.heap.size (fun r τ => ndP (nbs n) k (fun u => ndP (nbs n) k2 (fun v => (r, τ) = coF n σ u v) ((r, τ) = (-1, σ))) ((r, τ) = (-1, σ)))) [.ref (ad (0, 0)), .int k, .int k2].toArray s 0 0 (kA (kC n) ad s.heap.size)) (F0 m 68 ls []) := by
          intro q
          induction q with
          | zero => intro j ρj x5 H locs ls hj_j hq_j; exact absurd hq_j (by omega)
          | succ q ih_j =>
            intro j ρj x5 H locs ls hj_j hq_j hI_j hP hD hS hl
            refine lv_iload hx hb kd_S_coordinate_68 (lv_at hl 6 rfl) ?_
            refine lv_iload hx hb kd_S_coordinate_70 (lv_at hl 4 rfl) ?_
            refine lv_icmp_ge (tgt := 116) hx hb kd_S_coordinate_72 (by decide) (fun c_8 => ?_) (fun c_8 => ?_)
            · have hje_j : j = nbs n := lp_end (by unfold nbs; omega) hj_j c_8
              refine lv_iload hx hb kd_S_coordinate_116 (lv_at hl 5 rfl) ?_
              exact W.iret (v := x5) hx hb hr (fun t ht hW => ⟨⟨x5, ρj, rfl, ndP_y (by unfold nbs; omega) hu hku (ndP_y (by unfold nbs; omega) hv hkv (by rw [hje_j] at hI_j; unfold coF; rw [if_neg (fun z => c_7 (by rw [hku, hkv, z])), ← hI_j])), by rw [ht]; exact hP, va_K.moved hW.alike hK, hD.weaken (fun _ _ _ _ => trivial)⟩, hS.F ht⟩) hS.2.2 kd_S_coordinate_118
            · have hlt_j : j < nbs n := lp_go (by unfold nbs; omega) hj_j c_8
              refine lv_aload hx hb kd_S_coordinate_75 (lv_at hl 3 rfl) ?_
              refine lv_iload hx hb kd_S_coordinate_77 (lv_at hl 6 rfl) ?_
              refine kx_aald (i := j) hx hb hK hP kC_2 1 rfl rfl rfl hlt_j (by unfold nbs; omega) rfl kd_S_coordinate_79 ?_
              refine lv_astore (lv' := [(9, .ref (ad (4, j))), (0, .ref (ad (0, 0))), (3, .int ((σ.2.1 u).1)), (4, .int ((σ.2.1 v).1)), (6, .ref (ad (2, 0))), (7, .int (nI (nbs n))), (5, .int x5), (8, .int (nI j))]) hx hb kd_S_coordinate_80 hl (by decide) rfl (fun ls hl => ?_)
              refine lv_aload hx hb kd_S_coordinate_82 (lv_at hl 0 rfl) ?_
              refine kx_get (ci := 0) (fs := busL ad j (ρj.2.1 j)) (v := .int ((ρj.2.1 j).1)) hx hb hw ki_B hown hK hP (kC_4 hlt_j) rfl rfl 2 (by decide) kw_37 rfl rfl kd_S_coordinate_84 ?_
              refine lv_iload hx hb kd_S_coordinate_87 (lv_at hl 3 rfl) ?_
              refine lv_icmp_ne (tgt := 98) hx hb kd_S_coordinate_89 (by decide) (fun c_9 => ?_) (fun c_9 => ?_)
              · refine lv_aload hx hb kd_S_coordinate_98 (lv_at hl 0 rfl) ?_
                refine kx_get (ci := 0) (fs := busL ad j (ρj.2.1 j)) (v := .int ((ρj.2.1 j).1)) hx hb hw ki_B hown hK hP (kC_4 hlt_j) rfl rfl 2 (by decide) kw_37 rfl rfl kd_S_coordinate_100 ?_
                refine lv_iload_n hx hb kd_S_coordinate_103 rfl (lv_at hl 2 rfl) ?_
                refine lv_icmp_ne (tgt := 110) hx hb kd_S_coordinate_104 (by decide) (fun c_10 => ?_) (fun c_10 => ?_)
                · refine lv_iinc (v := nI (j + 1)) (lv' := [(8, .int (nI (j + 1))), (9, .ref (ad (4, j))), (0, .ref (ad (0, 0))), (3, .int ((σ.2.1 u).1)), (4, .int ((σ.2.1 v).1)), (6, .ref (ad (2, 0))), (7, .int (nI (nbs n))), (5, .int x5)]) hx hb kd_S_coordinate_110 hl (k := 7) rfl (nI_1 j) (by decide) rfl (fun ls hl => ?_)
                  refine lv_goto (tgt := 68) hx hb kd_S_coordinate_113 (by decide) ?_
                  exact ih_j (j + 1) ρj x5 _ _ _ hlt_j (by omega) (by rw [coL, ← hI_j]; dsimp only; rw [if_neg c_9, if_neg c_10]) hP hD hS (lv_sub hl [2, 3, 4, 5, 6, 7, 0] rfl)
                · refine lv_iinc (v := x5 + 1) (lv' := [(5, .int (x5 + 1)), (9, .ref (ad (4, j))), (0, .ref (ad (0, 0))), (3, .int ((σ.2.1 u).1)), (4, .int ((σ.2.1 v).1)), (6, .ref (ad (2, 0))), (7, .int (nI (nbs n))), (8, .int (nI j))]) hx hb kd_S_coordinate_107 hl (k := 6) rfl rfl (by decide) rfl (fun ls hl => ?_)
                  refine lv_iinc (v := nI (j + 1)) (lv' := [(8, .int (nI (j + 1))), (5, .int (x5 + 1)), (9, .ref (ad (4, j))), (0, .ref (ad (0, 0))), (3, .int ((σ.2.1 u).1)), (4, .int ((σ.2.1 v).1)), (6, .ref (ad (2, 0))), (7, .int (nI (nbs n)))]) hx hb kd_S_coordinate_110 hl (k := 7) rfl (nI_1 j) (by decide) rfl (fun ls hl => ?_)
                  refine lv_goto (tgt := 68) hx hb kd_S_coordinate_113 (by decide) ?_
                  exact ih_j (j + 1) ρj (x5 + 1) _ _ _ hlt_j (by omega) (by rw [coL, ← hI_j]; dsimp only; rw [if_neg c_9, if_pos c_10]) hP hD hS (lv_sub hl [3, 4, 5, 6, 7, 1, 0] rfl)
              · refine lv_aload hx hb kd_S_coordinate_92 (lv_at hl 0 rfl) ?_
                refine lv_iload_n hx hb kd_S_coordinate_94 rfl (lv_at hl 2 rfl) ?_
                refine kx_put (ci := 0) (fs := busL ad j (ρj.2.1 j)) (v := .int ((σ.2.1 u).1)) (g2 := gC n ad cN cB cL (setB ρj j ((σ.2.1 u).1, (ρj.2.1 j).2.1, (ρj.2.1 j).2.2))) hx hb hw ki_B kt_B ko_B kn_B hown hK hP hD hS (kC_4 hlt_j) rfl rfl 2 (by decide) kw_37 rfl rfl rfl rfl (Nat.le_of_ble_eq_true rfl) (gC_B rfl) kd_S_coordinate_95 (fun H locs hP hD hS => ?_)
                generalize hτ11 : setB ρj j ((σ.2.1 u).1, (ρj.2.1 j).2.1, (ρj.2.1 j).2.2) = τ11 at hP hD
                refine lv_aload hx hb kd_S_coordinate_98 (lv_at hl 0 rfl) ?_
                refine kx_get (ci := 0) (fs := busL ad j (τ11.2.1 j)) (v := .int ((τ11.2.1 j).1)) hx hb hw ki_B hown hK hP (kC_4 hlt_j) rfl rfl 2 (by decide) kw_37 rfl rfl kd_S_coordinate_100 ?_
                refine lv_iload_n hx hb kd_S_coordinate_103 rfl (lv_at hl 2 rfl) ?_
                refine lv_icmp_ne (tgt := 110) hx hb kd_S_coordinate_104 (by decide) (fun c_12 => ?_) (fun c_12 => ?_)
                · refine lv_iinc (v := nI (j + 1)) (lv' := [(8, .int (nI (j + 1))), (9, .ref (ad (4, j))), (0, .ref (ad (0, 0))), (3, .int ((σ.2.1 u).1)), (4, .int ((σ.2.1 v).1)), (6, .ref (ad (2, 0))), (7, .int (nI (nbs n))), (5, .int x5)]) hx hb kd_S_coordinate_110 hl (k := 7) rfl (nI_1 j) (by decide) rfl (fun ls hl => ?_)
                  refine lv_goto (tgt := 68) hx hb kd_S_coordinate_113 (by decide) ?_
                  exact ih_j (j + 1) τ11 x5 _ _ _ hlt_j (by omega) (by rw [coL, ← hI_j]; dsimp only; subst hτ11; rw [if_pos c_9, if_neg c_12]) hP hD hS (lv_sub hl [2, 3, 4, 5, 6, 7, 0] rfl)
                · refine lv_iinc (v := x5 + 1) (lv' := [(5, .int (x5 + 1)), (9, .ref (ad (4, j))), (0, .ref (ad (0, 0))), (3, .int ((σ.2.1 u).1)), (4, .int ((σ.2.1 v).1)), (6, .ref (ad (2, 0))), (7, .int (nI (nbs n))), (8, .int (nI j))]) hx hb kd_S_coordinate_107 hl (k := 6) rfl rfl (by decide) rfl (fun ls hl => ?_)
                  refine lv_iinc (v := nI (j + 1)) (lv' := [(8, .int (nI (j + 1))), (5, .int (x5 + 1)), (9, .ref (ad (4, j))), (0, .ref (ad (0, 0))), (3, .int ((σ.2.1 u).1)), (4, .int ((σ.2.1 v).1)), (6, .ref (ad (2, 0))), (7, .int (nI (nbs n)))]) hx hb kd_S_coordinate_110 hl (k := 7) rfl (nI_1 j) (by decide) rfl (fun ls hl => ?_)
                  refine lv_goto (tgt := 68) hx hb kd_S_coordinate_113 (by decide) ?_
                  exact ih_j (j + 1) τ11 (x5 + 1) _ _ _ hlt_j (by omega) (by rw [coL, ← hI_j]; dsimp only; subst hτ11; rw [if_pos c_9, if_pos c_12]) hP hD hS (lv_sub hl [3, 4, 5, 6, 7, 1, 0] rfl)
        exact loop (nbs n + 1) 0 σ 0 _ _ _ (Nat.zero_le _) (by omega) rfl hP hD hS (lv_sub hl [6, 5, 4, 2, 1, 3, 0] rfl)
      · refine lv_bipush (v := (-2)) hx hb kd_S_coordinate_23 (by decide) ?_
        exact W.iret (v := (-2)) hx hb hr (fun t ht hW => ⟨⟨(-2), σ, rfl, ndP_y (by unfold nbs; omega) hu hku (ndP_y (by unfold nbs; omega) hv hkv (by unfold coF; rw [if_pos (nd_eq (n := nbs n) (by unfold nbs; omega) hu hv hku (c_7.trans hkv))])), by rw [ht]; exact hP, va_K.moved hW.alike hK, hD.weaken (fun _ _ _ _ => trivial)⟩, hS.F ht⟩) hS.2.2 kd_S_coordinate_25
    · refine lv_if_ne (tgt := 18) hx hb kd_S_coordinate_13 (by decide) (fun c0 => absurd rfl c0) (fun _ => ?_)
      refine lv_iconst (v := (-1)) hx hb kd_S_coordinate_16 (by decide) ?_
      exact W.iret (v := (-1)) hx hb hr (fun t ht hW => ⟨⟨(-1), σ, rfl, ndP_y (by unfold nbs; omega) hu hku (ndP_n hnov rfl), by rw [ht]; exact hP, va_K.moved hW.alike hK, hD.weaken (fun _ _ _ _ => trivial)⟩, hS.F ht⟩) hS.2.2 kd_S_coordinate_17
  · refine lv_if_eq (tgt := 16) hx hb kd_S_coordinate_5 (by decide) (fun _ => ?_) (fun c0 => absurd (by decide) c0)
    refine lv_iconst (v := (-1)) hx hb kd_S_coordinate_16 (by decide) ?_
    exact W.iret (v := (-1)) hx hb hr (fun t ht hW => ⟨⟨(-1), σ, rfl, ndP_n hnou rfl, by rw [ht]; exact hP, va_K.moved hW.alike hK, hD.weaken (fun _ _ _ _ => trivial)⟩, hS.F ht⟩) hS.2.2 kd_S_coordinate_17
/-- the node that is so many places on among those that have been in NORMAL for long: fuel, place, how many are left -/
def nvT (σ : CS) : Nat → Nat → Int32 → Int32
  | 0, _, _ => 0
  | f + 1, j, x => if (σ.1 j).1 = 3 then (if σ.2.2.1 - (σ.1 j).2.1 < 200 then nvT σ f (j + 1) x else if x = 0 then nI (j + 1) else nvT σ f (j + 1) (x + (-1))) else nvT σ f (j + 1) x
set_option maxHeartbeats 4000000 in
set_option maxRecDepth 100000 in
theorem ct_S_never (l : Launch) (D : va_G) {n : Nat} (hn : 1 ≤ n ∧ n ≤ 64) (ad : Nat × Nat → Nat) (cN cB cL : ClassId) (σ : CS) (x : Int32) (sz : Nat) : Met l ky_S_never (km ky_S_never kc_S_never 7 (some .int)) ({ frames := 0, cells := 0, slots := 0, locals := 0 }) (cPre D n ad cN cB cL σ [.ref (ad (0, 0)), .int x] sz) (cQi D n ad cN cB cL sz (fun r τ => r = nvT σ n 0 x ∧ σ = τ)) 0 0 (kA (kC n) ad sz) := by
  refine Met.ofW (cc := kc_S_never) (maxL := 7) (ret := (some .int)) (by decide) rfl ?_
  intro p e s m args below meth c s₁ B hml hv
  obtain ⟨rfl, hsz, hP, hK, hD0⟩ := hv
  have hx := B.exec
  have hb := B.bytes
  have hr := B.returns
  have hts := atoms_spec (ws := km ky_S_never kc_S_never 7 (some .int)) B.pre
  have hT : ∀ w ∈ kB_l, w ∈ km ky_S_never kc_S_never 7 (some .int) := fun w h => List.mem_cons_of_mem _ h
  have hw := fun w h => hts w (hT w h)
  have hown : s.vm.findClass kR_S = some m.cls := findClass_of_methodNamed B.named
  have hlocks := B.notSynchronized
  subst hsz
  have hD : va_D (kA (kC n) ad s.heap.size) (kW (kC n) ad (gC n ad cN cB cL σ)) := kD_any _ hD0
  have hS : va_S (kA (kC n) ad s.heap.size) s.heap s.heap [] := va_S.rf
  have hl := lv_entry ([.ref (ad (0, 0)), .int x]) (n := 7) (Nat.le_of_ble_eq_true rfl)
  rw [lg_entry_eq]
  generalize (lg_sl ([.ref (ad (0, 0)), .int x]) ++ List.replicate (7 - (lg_sl ([.ref (ad (0, 0)), .int x])).length) Slot.unset).toArray = ls at hl ⊢
  have hl : lv_has ls 7 [(0, .ref (ad (0, 0))), (1, .int x)] := hl
  refine lv_iload_n hx hb kd_S_never_0 rfl (lv_at hl 1 rfl) ?_
  refine lv_istore_n (lv' := [(2, .int x), (0, .ref (ad (0, 0))), (1, .int x)]) hx hb kd_S_never_1 rfl hl (by decide) rfl (fun ls hl => ?_)
  refine lv_aload_n hx hb kd_S_never_2 rfl (lv_at hl 1 rfl) ?_
  refine kx_get (ci := 2) (fs := thisL ad σ) (v := .ref (ad (1, 0))) hx hb hw ki_S hown hK hP kC_0 rfl rfl 0 (by decide) kw_90 rfl rfl kd_S_never_3 ?_
  refine lv_astore_n (lv' := [(3, .ref (ad (1, 0))), (2, .int x), (0, .ref (ad (0, 0))), (1, .int x)]) hx hb kd_S_never_6 rfl hl (by decide) rfl (fun ls hl => ?_)
  refine lv_aload_n hx hb kd_S_never_7 rfl (lv_at hl 0 rfl) ?_
  refine kx_alen (n := n) hx hb hK hP kC_1 0 rfl rfl kd_S_never_8 ?_
  refine lv_istore (lv' := [(4, .int (nI n)), (3, .ref (ad (1, 0))), (2, .int x), (0, .ref (ad (0, 0))), (1, .int x)]) hx hb kd_S_never_9 hl (by decide) rfl (fun ls hl => ?_)
  refine lv_iconst (v := 0) hx hb kd_S_never_11 (by decide) ?_
  refine lv_istore (lv' := [(5, .int 0), (4, .int (nI n)), (3, .ref (ad (1, 0))), (2, .int x), (0, .ref (ad (0, 0))), (1, .int x)]) hx hb kd_S_never_12 hl (by decide) rfl (fun ls hl => ?_)
  have loop : ∀ (q j : Nat) (ρj : CS) (x2 : Int32) (H : Heap) (locs : List Loc) (ls : Array Slot), j ≤ n → n < j + q → (σ = ρj ∧ nvT σ (n - j) j x2 = nvT σ n 0 x) → va_P D kCl (kW (kC n) ad (gC n ad cN cB cL ρj)) H → va_D (kA (kC n) ad s.heap.size) (kW (kC n) ad (gC n ad cN cB cL ρj)) → va_S (kA (kC n) ad s.heap.size) s.heap H locs → lv_has ls 7 [(0, .ref (ad (0, 0))), (1, .int x), (3, .ref (ad (1, 0))), (4, .int (nI n)), (2, .int x2), (5, .int (nI j))] → W p l e (headSpec (km ky_S_never kc_S_never 7 (some .int)) ({ frames := 0, cells := 0, slots := 0, locals := 0 })).room s m [.ref (ad (0, 0)), .int x].toArray below meth c H locs 0 0 (MQ below (cQi D n ad cN cB cL s.heap.size (fun r τ => r = nvT σ n 0 x ∧ σ = τ)) [.ref (ad (0, 0)), .int x].toArray s 0 0 (kA (kC n) ad s.heap.size)) (F0 m 14 ls []) := by
    intro q
    induction q with
    | zero => intro j ρj x2 H locs ls hj_j hq_j; exact absurd hq_j (by omega)
    | succ q ih_j =>
      intro j ρj x2 H locs ls hj_j hq_j hI_j hP hD hS hl
      obtain ⟨rfl, hI_j⟩ := hI_j
      refine lv_iload hx hb kd_S_never_14 (lv_at hl 5 rfl) ?_
      refine lv_iload hx hb kd_S_never_16 (lv_at hl 3 rfl) ?_
      refine lv_icmp_ge (tgt := 72) hx hb kd_S_never_18 (by decide) (fun c_1 => ?_) (fun c_1 => ?_)
      · have hje_j : j = n := lp_end (by omega) hj_j c_1
        refine lv_iconst (v := 0) hx hb kd_S_never_72 (by decide) ?_
        exact W.iret (v := 0) hx hb hr (fun t ht hW => ⟨⟨0, σ, rfl, ⟨by rw [← hI_j, hje_j, Nat.sub_self]; rfl, rfl⟩, by rw [ht]; exact hP, va_K.moved hW.alike hK, hD.weaken (fun _ _ _ _ => trivial)⟩, hS.F ht⟩) hS.2.2 kd_S_never_73
      · have hlt_j : j < n := lp_go (by omega) hj_j c_1
        have hf_j : n - j = (n - (j + 1)) + 1 := by omega
        refine lv_aload_n hx hb kd_S_never_21 rfl (lv_at hl 2 rfl) ?_
        refine lv_iload hx hb kd_S_never_22 (lv_at hl 5 rfl) ?_
        refine kx_aald (i := j) hx hb hK hP kC_1 0 rfl rfl rfl hlt_j (by omega) rfl kd_S_never_24 ?_
        refine lv_astore (lv' := [(6, .ref (ad (3, j))), (0, .ref (ad (0, 0))), (1, .int x), (3, .ref (ad (1, 0))), (4, .int (nI n)), (2, .int x2), (5, .int (nI j))]) hx hb kd_S_never_25 hl (by decide) rfl (fun ls hl => ?_)
        refine lv_aload hx hb kd_S_never_27 (lv_at hl 0 rfl) ?_
        refine kx_get (ci := 1) (fs := nodeL ad j (σ.1 j)) (v := .int ((σ.1 j).1)) hx hb hw ki_N hown hK hP (kC_3 hlt_j) rfl rfl 2 (by decide) kw_58 rfl rfl kd_S_never_29 ?_
        refine lv_iconst (v := 3) hx hb kd_S_never_32 (by decide) ?_
        refine lv_icmp_ne (tgt := 66) hx hb kd_S_never_33 (by decide) (fun c_2 => ?_) (fun c_2 => ?_)
        · refine lv_iinc (v := nI (j + 1)) (lv' := [(5, .int (nI (j + 1))), (6, .ref (ad (3, j))), (0, .ref (ad (0, 0))), (1, .int x), (3, .ref (ad (1, 0))), (4, .int (nI n)), (2, .int x2)]) hx hb kd_S_never_66 hl (k := 6) rfl (nI_1 j) (by decide) rfl (fun ls hl => ?_)
          refine lv_goto (tgt := 14) hx hb kd_S_never_69 (by decide) ?_
          exact ih_j (j + 1) σ x2 _ _ _ hlt_j (by omega) ⟨rfl, by rw [← hI_j, hf_j, nvT, if_neg c_2]⟩ hP hD hS (lv_sub hl [2, 3, 4, 5, 6, 0] rfl)
        · refine lv_aload_n hx hb kd_S_never_36 rfl (lv_at hl 1 rfl) ?_
          refine kx_get (ci := 2) (fs := thisL ad σ) (v := .long σ.2.2.1) hx hb hw ki_S hown hK hP kC_0 rfl rfl 2 (by decide) kw_92 rfl rfl kd_S_never_37 ?_
          refine lv_aload hx hb kd_S_never_40 (lv_at hl 0 rfl) ?_
          refine kx_get (ci := 1) (fs := nodeL ad j (σ.1 j)) (v := .long ((σ.1 j).2.1)) hx hb hw ki_N hown hK hP (kC_3 hlt_j) rfl rfl 3 (by decide) kw_60 rfl rfl kd_S_never_42 ?_
          refine lv_lsub hx hb kd_S_never_45 ?_
          refine lv_ldc2 (v := 200) hx hb hown (hw _ kw_226) kd_S_never_46 ?_
          refine W.lcmp hx hb kd_S_never_49 ?_
          refine lv_if_lt (tgt := 66) hx hb kd_S_never_50 (by decide) (fun c_3 => ?_) (fun c_3 => ?_)
          · have c_3 := (lg_cmp_lt _ _).mp c_3
            refine lv_iinc (v := nI (j + 1)) (lv' := [(5, .int (nI (j + 1))), (6, .ref (ad (3, j))), (0, .ref (ad (0, 0))), (1, .int x), (3, .ref (ad (1, 0))), (4, .int (nI n)), (2, .int x2)]) hx hb kd_S_never_66 hl (k := 6) rfl (nI_1 j) (by decide) rfl (fun ls hl => ?_)
            refine lv_goto (tgt := 14) hx hb kd_S_never_69 (by decide) ?_
            exact ih_j (j + 1) σ x2 _ _ _ hlt_j (by omega) ⟨rfl, by rw [← hI_j, hf_j, nvT, if_pos c_2, if_pos c_3]⟩ hP hD hS (lv_sub hl [2, 3, 4, 5, 6, 0] rfl)
          · have c_3 := fun h => c_3 ((lg_cmp_lt _ _).mpr h)
            refine lv_iload_n hx hb kd_S_never_53 rfl (lv_at hl 5 rfl) ?_
            refine lv_if_ne (tgt := 63) hx hb kd_S_never_54 (by decide) (fun c_4 => ?_) (fun c_4 => ?_)
            · refine lv_iinc (v := x2 + (-1)) (lv' := [(2, .int (x2 + (-1))), (6, .ref (ad (3, j))), (0, .ref (ad (0, 0))), (1, .int x), (3, .ref (ad (1, 0))), (4, .int (nI n)), (5, .int (nI j))]) hx hb kd_S_never_63 hl (k := 5) rfl rfl (by decide) rfl (fun ls hl => ?_)
              refine lv_iinc (v := nI (j + 1)) (lv' := [(5, .int (nI (j + 1))), (2, .int (x2 + (-1))), (6, .ref (ad (3, j))), (0, .ref (ad (0, 0))), (1, .int x), (3, .ref (ad (1, 0))), (4, .int (nI n))]) hx hb kd_S_never_66 hl (k := 6) rfl (nI_1 j) (by decide) rfl (fun ls hl => ?_)
              refine lv_goto (tgt := 14) hx hb kd_S_never_69 (by decide) ?_
              exact ih_j (j + 1) σ (x2 + (-1)) _ _ _ hlt_j (by omega) ⟨rfl, by rw [← hI_j, hf_j, nvT, if_pos c_2, if_neg c_3, if_neg c_4]⟩ hP hD hS (lv_sub hl [3, 4, 5, 6, 1, 0] rfl)
            · refine lv_aload hx hb kd_S_never_57 (lv_at hl 0 rfl) ?_
              refine kx_get (ci := 1) (fs := nodeL ad j (σ.1 j)) (v := .int (nI (j + 1))) hx hb hw ki_N hown hK hP (kC_3 hlt_j) rfl rfl 0 (by decide) kw_55 rfl rfl kd_S_never_59 ?_
              exact W.iret (v := nI (j + 1)) hx hb hr (fun t ht hW => ⟨⟨nI (j + 1), σ, rfl, ⟨by rw [← hI_j, hf_j, nvT, if_pos c_2, if_neg c_3, if_pos c_4], rfl⟩, by rw [ht]; exact hP, va_K.moved hW.alike hK, hD.weaken (fun _ _ _ _ => trivial)⟩, hS.F ht⟩) hS.2.2 kd_S_never_62
  exact loop (n + 1) 0 σ x _ _ _ (Nat.zero_le _) (by omega) ⟨rfl, rfl⟩ hP hD hS (lv_sub hl [4, 5, 2, 1, 3, 0] rfl)
def liF (n : Nat) (σ : CS) (i : Nat) (t : Int64) : Int32 × CS :=
  if okT σ.2.2.1 t then
    (let s0 : CS := goT n σ t
     if (s0.1 i).2.2.2.2.2.2.1 = 0 then (let s1 : CS := setN s0 i ((s0.1 i).1, (s0.1 i).2.1, (s0.1 i).2.2.1, (s0.1 i).2.2.2.1, (s0.1 i).2.2.2.2.1, (s0.1 i).2.2.2.2.2.1, 1, (s0.1 i).2.2.2.2.2.2.2); let s2 : CS := setN s1 i ((s1.1 i).1, (s1.1 i).2.1, (s1.1 i).2.2.1, (s1.1 i).2.2.2.1, 0, (s1.1 i).2.2.2.2.2.1, (s1.1 i).2.2.2.2.2.2.1, (s1.1 i).2.2.2.2.2.2.2); (1, cmT s2 i 0)) else (0, setN s0 i ((s0.1 i).1, (s0.1 i).2.1, (s0.1 i).2.2.1, (s0.1 i).2.2.2.1, (s0.1 i).2.2.2.2.1, (s0.1 i).2.2.2.2.2.1, 0, (s0.1 i).2.2.2.2.2.2.2)))
  else (-2, σ)
theorem setN_out (σ : CS) (i : Nat) (a : Int32) (b c d : Int64) (e f g h : Int32) : ((setN σ i (a, b, c, d, e, f, g, h)).1 i).2.2.2.2.2.2.1 = g := by simp [setN, va_up]
set_option maxHeartbeats 4000000 in
set_option maxRecDepth 100000 in
theorem ct_S_limp (l : Launch) (D : va_G) {n : Nat} (hn : 1 ≤ n ∧ n ≤ 64) (ad : Nat × Nat → Nat) (cN cB cL : ClassId) (σ : CS) (k : Int32) (t : Int64) {a : Nat} (ha : σ.2.2.1 = lN a) (hA : a < 2 ^ 30) (sz : Nat) : Met l ky_S_limp (km ky_S_limp kc_S_limp 5 (some .int)) ({ frames := 7, cells := 0, slots := 0, locals := 158 }) (cPre D n ad cN cB cL σ [.ref (ad (0, 0)), .int k, .long t] sz) (cQi D n ad cN cB cL sz (fun r τ => ndP n k (fun i => (r, τ) = liF n σ i t) ((r, τ) = (-1, σ)))) 0 0 (kA (kC n) ad sz) := by
  refine Met.ofW (cc := kc_S_limp) (maxL := 5) (ret := (some .int)) (by decide) rfl ?_
  intro p e s m args below meth c s₁ B hml hv
  obtain ⟨rfl, hsz, hP, hK, hD0⟩ := hv
  have hx := B.exec
  have hb := B.bytes
  have hr := B.returns
  have hts := atoms_spec (ws := km ky_S_limp kc_S_limp 5 (some .int)) B.pre
  have hT : ∀ w ∈ kB_l, w ∈ km ky_S_limp kc_S_limp 5 (some .int) := fun w h => List.mem_cons_of_mem _ h
  have hw := fun w h => hts w (hT w h)
  have hown : s.vm.findClass kR_S = some m.cls := findClass_of_methodNamed B.named
  have hlocks := B.notSynchronized
  subst hsz
  have hD : va_D (kA (kC n) ad s.heap.size) (kW (kC n) ad (gC n ad cN cB cL σ)) := kD_any _ hD0
  have hS : va_S (kA (kC n) ad s.heap.size) s.heap s.heap [] := va_S.rf
  have hl := lv_entry ([.ref (ad (0, 0)), .int k, .long t]) (n := 5) (Nat.le_of_ble_eq_true rfl)
  rw [lg_entry_eq]
  generalize (lg_sl ([.ref (ad (0, 0)), .int k, .long t]) ++ List.replicate (5 - (lg_sl ([.ref (ad (0, 0)), .int k, .long t])).length) Slot.unset).toArray = ls at hl ⊢
  have hl : lv_has ls 5 [(0, .ref (ad (0, 0))), (1, .int k), (2, .long t)] := hl
  refine lv_aload_n hx hb kd_S_limp_0 rfl (lv_at hl 0 rfl) ?_
  refine lv_iload_n hx hb kd_S_limp_1 rfl (lv_at hl 1 rfl) ?_
  refine kx_Vi (G := gC n ad cN cB cL) (σ := σ) (κ := (0, 0)) (ci := 2) (fs := thisL ad σ) (As := [.int k]) (rest := []) (n := 1) hx hb hml hown hts hT (ct_S_isNode l D hn ad cN cB cL σ k s.heap.size) kw_107 kw_109 ks_0 kw_1 kw_110 (by decide +kernel) ⟨rfl, rfl⟩ ⟨Nat.le_of_ble_eq_true rfl, Nat.le_of_ble_eq_true rfl⟩ hK hP hD hS kC_0 rfl rfl rfl hl.1 (Nat.le_of_ble_eq_true rfl) kd_S_limp_2 rfl ⟨Nat.zero_le _, Nat.zero_le _⟩ (fun r_1 τ2 H locs hq3 hP hD hS => ?_)
  obtain ⟨⟨rfl, i, hi, hk⟩ | ⟨rfl, hno⟩, rfl⟩ := hq3
  · refine lv_if_ne (tgt := 10) hx hb kd_S_limp_5 (by decide) (fun _ => ?_) (fun c0 => absurd c0 (by decide))
    refine lv_aload_n hx hb kd_S_limp_10 rfl (lv_at hl 0 rfl) ?_
    refine lv_lload_n hx hb kd_S_limp_11 rfl (lv_at hl 2 rfl) ?_
    refine kx_Vi (G := gC n ad cN cB cL) (σ := σ) (κ := (0, 0)) (ci := 2) (fs := thisL ad σ) (As := [.long t]) (rest := []) (n := 1) hx hb hml hown hts hT (ct_S_isTime l D hn ad cN cB cL σ t H.size) kw_135 kw_137 ks_3 kw_1 kw_138 (by decide +kernel) ⟨rfl, rfl⟩ ⟨Nat.le_of_ble_eq_true rfl, Nat.le_of_ble_eq_true rfl⟩ hK hP hD hS kC_0 rfl rfl rfl hl.1 (Nat.le_of_ble_eq_true rfl) kd_S_limp_12 rfl ⟨Nat.zero_le _, Nat.zero_le _⟩ (fun r_4 τ5 H locs hq6 hP hD hS => ?_)
    obtain ⟨⟨rfl, q_7⟩ | ⟨rfl, q_7⟩, rfl⟩ := hq6
    · refine lv_if_ne (tgt := 21) hx hb kd_S_limp_15 (by decide) (fun _ => ?_) (fun c0 => absurd c0 (by decide))
      refine lv_aload_n hx hb kd_S_limp_21 rfl (lv_at hl 0 rfl) ?_
      refine lv_lload_n hx hb kd_S_limp_22 rfl (lv_at hl 2 rfl) ?_
      refine kx_Vv (G := gC n ad cN cB cL) (σ := σ) (κ := (0, 0)) (ci := 2) (fs := thisL ad σ) (As := [.long t]) (rest := []) (n := 1) hx hb hml hown hts hT (ct_S_goOn l D hn ad cN cB cL σ t q_7 ha hA H.size) kw_140 kw_142 ks_4 kw_1 kw_143 (by decide +kernel) ⟨rfl, rfl⟩ ⟨Nat.le_of_ble_eq_true rfl, Nat.le_of_ble_eq_true rfl⟩ hK hP hD hS kC_0 rfl rfl rfl hl.1 (Nat.le_of_ble_eq_true rfl) kd_S_limp_23 rfl ⟨Nat.zero_le _, Nat.zero_le _⟩ (fun τ9 H locs hq10 hP hD hS => ?_)
      have hτ9 := hq10
      refine lv_aload_n hx hb kd_S_limp_26 rfl (lv_at hl 0 rfl) ?_
      refine kx_get (ci := 2) (fs := thisL ad τ9) (v := .ref (ad (1, 0))) hx hb hw ki_S hown hK hP kC_0 rfl rfl 0 (by decide) kw_90 rfl rfl kd_S_limp_27 ?_
      refine lv_iload_n hx hb kd_S_limp_30 rfl (lv_at hl 1 rfl) ?_
      refine lv_iconst (v := 1) hx hb kd_S_limp_31 (by decide) ?_
      refine lv_isub hx hb kd_S_limp_32 ?_
      refine kx_aald (i := i) hx hb hK hP kC_1 0 rfl rfl (by rw [hk]; exact nI_pred i) hi (by omega) rfl kd_S_limp_33 ?_
      refine lv_astore (lv' := [(4, .ref (ad (3, i))), (0, .ref (ad (0, 0))), (1, .int k), (2, .long t)]) hx hb kd_S_limp_34 hl (by decide) rfl (fun ls hl => ?_)
      refine lv_aload hx hb kd_S_limp_36 (lv_at hl 0 rfl) ?_
      refine lv_aload hx hb kd_S_limp_38 (lv_at hl 0 rfl) ?_
      refine kx_get (ci := 1) (fs := nodeL ad i (τ9.1 i)) (v := .int ((τ9.1 i).2.2.2.2.2.2.1)) hx hb hw ki_N hown hK hP (kC_3 hi) rfl rfl 8 (by decide) kw_67 rfl rfl kd_S_limp_40 ?_
      refine lv_if_ne (tgt := 50) hx hb kd_S_limp_43 (by decide) (fun c_11 => ?_) (fun c_11 => ?_)
      · refine lv_iconst (v := 0) hx hb kd_S_limp_50 (by decide) ?_
        refine kx_put (ci := 1) (fs := nodeL ad i (τ9.1 i)) (v := .int 0) (g2 := gC n ad cN cB cL (setN τ9 i ((τ9.1 i).1, (τ9.1 i).2.1, (τ9.1 i).2.2.1, (τ9.1 i).2.2.2.1, (τ9.1 i).2.2.2.2.1, (τ9.1 i).2.2.2.2.2.1, 0, (τ9.1 i).2.2.2.2.2.2.2))) hx hb hw ki_N kt_N ko_N kn_N hown hK hP hD hS (kC_3 hi) rfl rfl 8 (by decide) kw_67 rfl rfl rfl rfl (Nat.le_of_ble_eq_true rfl) (gC_N rfl) kd_S_limp_51 (fun H locs hP hD hS => ?_)
        generalize hτ12 : setN τ9 i ((τ9.1 i).1, (τ9.1 i).2.1, (τ9.1 i).2.2.1, (τ9.1 i).2.2.2.1, (τ9.1 i).2.2.2.2.1, (τ9.1 i).2.2.2.2.2.1, 0, (τ9.1 i).2.2.2.2.2.2.2) = τ12 at hP hD
        refine lv_aload hx hb kd_S_limp_54 (lv_at hl 0 rfl) ?_
        refine kx_get (ci := 1) (fs := nodeL ad i (τ12.1 i)) (v := .int ((τ12.1 i).2.2.2.2.2.2.1)) hx hb hw ki_N hown hK hP (kC_3 hi) rfl rfl 8 (by decide) kw_67 rfl rfl kd_S_limp_56 ?_
        refine lv_if_ne (tgt := 64) hx hb kd_S_limp_59 (by decide) (fun c_13 => ?_) (fun c_13 => ?_)
        · exact absurd (by rw [← hτ12]; exact setN_out _ _ _ _ _ _ _ _ _ _) c_13
        · refine lv_iconst (v := 0) hx hb kd_S_limp_62 (by decide) ?_
          exact W.iret (v := 0) hx hb hr (fun t ht hW => ⟨⟨0, τ12, rfl, ndP_y hn.2 hi hk (by subst hτ9; subst hτ12; unfold liF; rw [if_pos q_7]; dsimp only; rw [if_neg c_11]), by rw [ht]; exact hP, va_K.moved hW.alike hK, hD.weaken (fun _ _ _ _ => trivial)⟩, hS.F ht⟩) hS.2.2 kd_S_limp_63
      · refine lv_iconst (v := 1) hx hb kd_S_limp_46 (by decide) ?_
        refine lv_goto (tgt := 51) hx hb kd_S_limp_47 (by decide) ?_
        refine kx_put (ci := 1) (fs := nodeL ad i (τ9.1 i)) (v := .int 1) (g2 := gC n ad cN cB cL (setN τ9 i ((τ9.1 i).1, (τ9.1 i).2.1, (τ9.1 i).2.2.1, (τ9.1 i).2.2.2.1, (τ9.1 i).2.2.2.2.1, (τ9.1 i).2.2.2.2.2.1, 1, (τ9.1 i).2.2.2.2.2.2.2))) hx hb hw ki_N kt_N ko_N kn_N hown hK hP hD hS (kC_3 hi) rfl rfl 8 (by decide) kw_67 rfl rfl rfl rfl (Nat.le_of_ble_eq_true rfl) (gC_N rfl) kd_S_limp_51 (fun H locs hP hD hS => ?_)
        generalize hτ14 : setN τ9 i ((τ9.1 i).1, (τ9.1 i).2.1, (τ9.1 i).2.2.1, (τ9.1 i).2.2.2.1, (τ9.1 i).2.2.2.2.1, (τ9.1 i).2.2.2.2.2.1, 1, (τ9.1 i).2.2.2.2.2.2.2) = τ14 at hP hD
        refine lv_aload hx hb kd_S_limp_54 (lv_at hl 0 rfl) ?_
        refine kx_get (ci := 1) (fs := nodeL ad i (τ14.1 i)) (v := .int ((τ14.1 i).2.2.2.2.2.2.1)) hx hb hw ki_N hown hK hP (kC_3 hi) rfl rfl 8 (by decide) kw_67 rfl rfl kd_S_limp_56 ?_
        refine lv_if_ne (tgt := 64) hx hb kd_S_limp_59 (by decide) (fun c_15 => ?_) (fun c_15 => ?_)
        · refine lv_aload hx hb kd_S_limp_64 (lv_at hl 0 rfl) ?_
          refine lv_iconst (v := 0) hx hb kd_S_limp_66 (by decide) ?_
          refine kx_put (ci := 1) (fs := nodeL ad i (τ14.1 i)) (v := .int 0) (g2 := gC n ad cN cB cL (setN τ14 i ((τ14.1 i).1, (τ14.1 i).2.1, (τ14.1 i).2.2.1, (τ14.1 i).2.2.2.1, 0, (τ14.1 i).2.2.2.2.2.1, (τ14.1 i).2.2.2.2.2.2.1, (τ14.1 i).2.2.2.2.2.2.2))) hx hb hw ki_N kt_N ko_N kn_N hown hK hP hD hS (kC_3 hi) rfl rfl 6 (by decide) kw_64 rfl rfl rfl rfl (Nat.le_of_ble_eq_true rfl) (gC_N rfl) kd_S_limp_67 (fun H locs hP hD hS => ?_)
          generalize hτ16 : setN τ14 i ((τ14.1 i).1, (τ14.1 i).2.1, (τ14.1 i).2.2.1, (τ14.1 i).2.2.2.1, 0, (τ14.1 i).2.2.2.2.2.1, (τ14.1 i).2.2.2.2.2.2.1, (τ14.1 i).2.2.2.2.2.2.2) = τ16 at hP hD
          refine lv_aload_n hx hb kd_S_limp_70 rfl (lv_at hl 1 rfl) ?_
          refine lv_aload hx hb kd_S_limp_71 (lv_at hl 0 rfl) ?_
          refine lv_iconst (v := 0) hx hb kd_S_limp_73 (by decide) ?_
          refine kx_Vv (G := gC n ad cN cB cL) (σ := τ16) (κ := (0, 0)) (ci := 2) (fs := thisL ad τ16) (As := [.ref (ad (3, i)), .int 0]) (rest := []) (n := 2) hx hb hml hown hts hT (ct_S_comeTo l D hn ad cN cB cL τ16 hi 0 H.size) kw_123 kw_125 ks_2 kw_1 kw_126 (by decide +kernel) ⟨rfl, rfl⟩ ⟨Nat.le_of_ble_eq_true rfl, Nat.le_of_ble_eq_true rfl⟩ hK hP hD hS kC_0 rfl rfl rfl hl.1 (Nat.le_of_ble_eq_true rfl) kd_S_limp_74 rfl ⟨Nat.zero_le _, Nat.zero_le _⟩ (fun τ18 H locs hq19 hP hD hS => ?_)
          have hτ18 := hq19
          refine lv_iconst (v := 1) hx hb kd_S_limp_77 (by decide) ?_
          exact W.iret (v := 1) hx hb hr (fun t ht hW => ⟨⟨1, τ18, rfl, ndP_y hn.2 hi hk (by subst hτ9; subst hτ14; subst hτ16; subst hτ18; unfold liF; rw [if_pos q_7]; dsimp only; rw [if_pos c_11]), by rw [ht]; exact hP, va_K.moved hW.alike hK, hD.weaken (fun _ _ _ _ => trivial)⟩, hS.F ht⟩) hS.2.2 kd_S_limp_78
        · exact absurd c_15 (by rw [← hτ14, setN_out]; decide)
    · refine lv_if_ne (tgt := 21) hx hb kd_S_limp_15 (by decide) (fun c0 => absurd rfl c0) (fun _ => ?_)
      refine lv_bipush (v := (-2)) hx hb kd_S_limp_18 (by decide) ?_
      exact W.iret (v := (-2)) hx hb hr (fun t ht hW => ⟨⟨(-2), σ, rfl, ndP_y hn.2 hi hk (by unfold liF; rw [if_neg q_7]), by rw [ht]; exact hP, va_K.moved hW.alike hK, hD.weaken (fun _ _ _ _ => trivial)⟩, hS.F ht⟩) hS.2.2 kd_S_limp_20
  · refine lv_if_ne (tgt := 10) hx hb kd_S_limp_5 (by decide) (fun c0 => absurd rfl c0) (fun _ => ?_)
    refine lv_iconst (v := (-1)) hx hb kd_S_limp_8 (by decide) ?_
    exact W.iret (v := (-1)) hx hb hr (fun t ht hW => ⟨⟨(-1), σ, rfl, ndP_n hno rfl, by rw [ht]; exact hP, va_K.moved hW.alike hK, hD.weaken (fun _ _ _ _ => trivial)⟩, hS.F ht⟩) hS.2.2 kd_S_limp_9
