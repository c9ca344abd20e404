theorem mb_lt {n b j : Nat} (h : j < mbs n b) : 8 * b + j < n := by unfold mbs at h; omega
section KA
variable {p : Program} {l : Launch} {e : Env} {R : Room} {s : State} {m : MethodId} {args : Array Value} {below : List Frame} {meth : Method} {c : Code} {H : Heap} {locs : List Loc} {cells slots : Nat} {Q : State → Prop}
variable {cc : ByteArray} {pc : Nat} {ls : Array Slot} {rest : List Value} {A : Nat → Prop} {K : List (Nat × Nat)} {ad : Nat × Nat → Nat} {g : Nat × Nat → va_E}
theorem kx_acmp_eq (hexec : p.tables.exec = Jvm.exec) (hb : c.code = cc) (hD : va_D A (kW K ad g)) {x y : Nat × Nat} (hx : x ∈ K) (hy : y ∈ K) {off : Int} {tgt : Nat} (hdg : decode cc pc = .ok (.if_acmp .eq off, 3)) (ht : (pc : Int) + off = (tgt : Int))
    (kt : x = y → W p l e R s m args below meth c H locs cells slots Q (F0 m tgt ls rest)) (kf : ¬ x = y → W p l e R s m args below meth c H locs cells slots Q (F0 m (pc + 3) ls rest)) : W p l e R s m args below meth c H locs cells slots Q (F0 m pc ls (.ref (ad y) :: .ref (ad x) :: rest)) :=
  lv_acmp_eq (rx := some (ad x)) (ry := some (ad y)) hexec hb hdg ht (fun h => kt (kD_inj hD hx hy (Option.some.inj h))) (fun h => kf (fun e => h (by rw [e])))
end KA
def rwL (σ : CS) (i : Nat) : Nat → CS × Int32
  | 0 => (setN σ i ((σ.1 i).1, (σ.1 i).2.1, σ.2.2.1, (σ.1 i).2.2.2.1, (σ.1 i).2.2.2.2.1, (σ.1 i).2.2.2.2.2.1, (σ.1 i).2.2.2.2.2.2.1, (σ.1 i).2.2.2.2.2.2.2), 0)
  | k + 1 => if 8 * (i / 8) + k = i then rwL σ i k else if ((rwL σ i k).1.1 (8 * (i / 8) + k)).1 = 0 then rwL σ i k else (hrS (rwL σ i k).1 (8 * (i / 8) + k), (rwL σ i k).2 + 1)
theorem rwL_1 {σ : CS} {i k : Nat} (h : 8 * (i / 8) + k = i) : rwL σ i (k + 1) = rwL σ i k := if_pos h
theorem rwL_2 {σ : CS} {i k : Nat} (h : ¬ 8 * (i / 8) + k = i) (h2 : ((rwL σ i k).1.1 (8 * (i / 8) + k)).1 = 0) : rwL σ i (k + 1) = rwL σ i k := by rw [rwL, if_neg h, if_pos h2]
theorem rwL_3 {σ : CS} {i k : Nat} (h : ¬ 8 * (i / 8) + k = i) (h2 : ¬ ((rwL σ i k).1.1 (8 * (i / 8) + k)).1 = 0) : rwL σ i (k + 1) = (hrS (rwL σ i k).1 (8 * (i / 8) + k), (rwL σ i k).2 + 1) := by rw [rwL, if_neg h, if_neg h2]
theorem pair3 {a b : Nat} (h : ((3, a) : Nat × Nat) = (3, b)) : a = b := congrArg Prod.snd h
/-- a row: how many heard it, and the state behind it -/
def rwR (n : Nat) (σ : CS) (i : Nat) : Int32 := (rwL σ i (mbs n (i / 8))).2
def rwS (n : Nat) (σ : CS) (i : Nat) : CS :=
  if wnt ((rwL σ i (mbs n (i / 8))).1.1 i) then cbS (rwL σ i (mbs n (i / 8))).1 (i / 8) ((rwL σ i (mbs n (i / 8))).1.1 i).2.2.2.2.2.2.2 32 else (rwL σ i (mbs n (i / 8))).1
set_option maxHeartbeats 4000000 in
set_option maxRecDepth 100000 in
theorem ct_S_sendRow (l : Launch) (D : va_G) {n : Nat} (hn : 1 ≤ n ∧ n ≤ 64) (ad : Nat × Nat → Nat) (cN cB cL : ClassId) (σ : CS) {i : Nat} (hi : i < n) (sz : Nat) : Met l ky_S_sendRow (km ky_S_sendRow kc_S_sendRow 7 (some .int)) ({ frames := 4, cells := 0, slots := 0, locals := 84 }) (cPre D n ad cN cB cL σ [.ref (ad (0, 0)), .ref (ad (3, i))] sz) (cQi D n ad cN cB cL sz (fun r τ => r = rwR n σ i ∧ rwS n σ i = τ)) 0 0 (kA (kC n) ad sz) := by
  refine Met.ofW (cc := kc_S_sendRow) (maxL := 7) (ret := (some .int)) (by decide) rfl ?_
  intro p e s m args below meth c s₁ B hml hv
  obtain ⟨rfl, hsz, hP, hK, hD0⟩ := hv
  have hx := B.exec
  have hb := B.bytes
  have hr := B.returns
  have hts := atoms_spec (ws := km ky_S_sendRow kc_S_sendRow 7 (some .int)) B.pre
  have hT : ∀ w ∈ kB_l, w ∈ km ky_S_sendRow kc_S_sendRow 7 (some .int) := fun w h => List.mem_cons_of_mem _ h
  have hw := fun w h => hts w (hT w h)
  have hown : s.vm.findClass kR_S = some m.cls := findClass_of_methodNamed B.named
  have hlocks := B.notSynchronized
  subst hsz
  have hD : va_D (kA (kC n) ad s.heap.size) (kW (kC n) ad (gC n ad cN cB cL σ)) := kD_any _ hD0
  have hS : va_S (kA (kC n) ad s.heap.size) s.heap s.heap [] := va_S.rf
  have hl := lv_entry ([.ref (ad (0, 0)), .ref (ad (3, i))]) (n := 7) (Nat.le_of_ble_eq_true rfl)
  rw [lg_entry_eq]
  generalize (lg_sl ([.ref (ad (0, 0)), .ref (ad (3, i))]) ++ List.replicate (7 - (lg_sl ([.ref (ad (0, 0)), .ref (ad (3, i))])).length) Slot.unset).toArray = ls at hl ⊢
  have hl : lv_has ls 7 [(0, .ref (ad (0, 0))), (1, .ref (ad (3, i)))] := hl
  refine lv_iconst (v := 0) hx hb kd_S_sendRow_0 (by decide) ?_
  refine lv_istore_n (lv' := [(2, .int 0), (0, .ref (ad (0, 0))), (1, .ref (ad (3, i)))]) hx hb kd_S_sendRow_1 rfl hl (by decide) rfl (fun ls hl => ?_)
  refine lv_aload_n hx hb kd_S_sendRow_2 rfl (lv_at hl 2 rfl) ?_
  refine lv_aload_n hx hb kd_S_sendRow_3 rfl (lv_at hl 1 rfl) ?_
  refine kx_get (ci := 2) (fs := thisL ad σ) (v := .long σ.2.2.1) hx hb hw ki_S hown hK hP kC_0 rfl rfl 2 (by decide) kw_92 rfl rfl kd_S_sendRow_4 ?_
  refine kx_put (ci := 1) (fs := nodeL ad i (σ.1 i)) (v := .long σ.2.2.1) (g2 := gC n ad cN cB cL (setN σ i ((σ.1 i).1, (σ.1 i).2.1, σ.2.2.1, (σ.1 i).2.2.2.1, (σ.1 i).2.2.2.2.1, (σ.1 i).2.2.2.2.2.1, (σ.1 i).2.2.2.2.2.2.1, (σ.1 i).2.2.2.2.2.2.2))) hx hb hw ki_N kt_N ko_N kn_N hown hK hP hD hS (kC_3 hi) rfl rfl 4 (by decide) kw_61 rfl rfl rfl rfl (Nat.le_of_ble_eq_true rfl) (gC_N rfl) kd_S_sendRow_7 (fun H locs hP hD hS => ?_)
  generalize hτ1 : setN σ i ((σ.1 i).1, (σ.1 i).2.1, σ.2.2.1, (σ.1 i).2.2.2.1, (σ.1 i).2.2.2.2.1, (σ.1 i).2.2.2.2.2.1, (σ.1 i).2.2.2.2.2.2.1, (σ.1 i).2.2.2.2.2.2.2) = τ1 at hP hD
  refine lv_aload_n hx hb kd_S_sendRow_10 rfl (lv_at hl 2 rfl) ?_
  refine kx_get (ci := 1) (fs := nodeL ad i (τ1.1 i)) (v := .ref (ad (4, i / 8))) hx hb hw ki_N hown hK hP (kC_3 hi) rfl rfl 1 (by decide) kw_57 rfl rfl kd_S_sendRow_11 ?_
  refine kx_get (ci := 0) (fs := busL ad (i / 8) (τ1.2.1 (i / 8))) (v := .ref (ad (5, i / 8))) hx hb hw ki_B hown hK hP (kC_4 (nbs_of hi)) rfl rfl 0 (by decide) kw_33 rfl rfl kd_S_sendRow_14 ?_
  refine lv_astore_n (lv' := [(3, .ref (ad (5, i / 8))), (2, .int 0), (0, .ref (ad (0, 0))), (1, .ref (ad (3, i)))]) hx hb kd_S_sendRow_17 rfl hl (by decide) rfl (fun ls hl => ?_)
  refine lv_aload_n hx hb kd_S_sendRow_18 rfl (lv_at hl 0 rfl) ?_
  refine kx_alen (n := mbs n (i / 8)) hx hb hK hP (kC_5 (nbs_of hi)) 0 rfl rfl kd_S_sendRow_19 ?_
  refine lv_istore (lv' := [(4, .int (nI (mbs n (i / 8)))), (3, .ref (ad (5, i / 8))), (2, .int 0), (0, .ref (ad (0, 0))), (1, .ref (ad (3, i)))]) hx hb kd_S_sendRow_20 hl (by decide) rfl (fun ls hl => ?_)
  refine lv_iconst (v := 0) hx hb kd_S_sendRow_22 (by decide) ?_
  refine lv_istore (lv' := [(5, .int 0), (4, .int (nI (mbs n (i / 8)))), (3, .ref (ad (5, i / 8))), (2, .int 0), (0, .ref (ad (0, 0))), (1, .ref (ad (3, i)))]) hx hb kd_S_sendRow_23 hl (by decide) rfl (fun ls hl => ?_)
  have loop : ∀ (q j : Nat) (ρj : CS) (x2 : Int32) (H : Heap) (locs : List Loc) (ls : Array Slot), j ≤ mbs n (i / 8) → mbs n (i / 8) < j + q → ((ρj, x2) = rwL σ i j) → va_P D kCl (kW (kC n) ad (gC n ad cN cB cL ρj)) H → va_D (kA (kC n) ad s.heap.size) (kW (kC n) ad (gC n ad cN cB cL ρj)) → va_S (kA (kC n) ad s.heap.size) s.heap H locs → lv_has ls 7 [(0, .ref (ad (0, 0))), (1, .ref (ad (3, i))), (3, .ref (ad (5, i / 8))), (4, .int (nI (mbs n (i / 8)))), (2, .int x2), (5, .int (nI j))] → W p l e (headSpec (km ky_S_sendRow kc_S_sendRow 7 (some .int)) ({ frames := 4, cells := 0, slots := 0, locals := 84 })).room s m [.ref (ad (0, 0)), .ref (ad (3, i))].toArray below meth c H locs 0 0 (MQ below (cQi D n ad cN cB cL s.heap.size (fun r τ => r = rwR n σ i ∧ rwS n σ i = τ)) [.ref (ad (0, 0)), .ref (ad (3, i))].toArray s 0 0 (kA (kC n) ad s.heap.size)) (F0 m 25 ls []) := by
    intro q
    induction q with
    | zero => intro j ρj x2 H locs ls hj_j hq_j; exact absurd hq_j (by omega)
    | succ q ih_j =>
      intro j ρj x2 H locs ls hj_j hq_j hI_j hP hD hS hl
      refine lv_iload hx hb kd_S_sendRow_25 (lv_at hl 5 rfl) ?_
      refine lv_iload hx hb kd_S_sendRow_27 (lv_at hl 3 rfl) ?_
      refine lv_icmp_ge (tgt := 67) hx hb kd_S_sendRow_29 (by decide) (fun c_2 => ?_) (fun c_2 => ?_)
      · have hje_j : j = mbs n (i / 8) := lp_end (by unfold mbs; omega) hj_j c_2
        refine lv_aload_n hx hb kd_S_sendRow_67 rfl (lv_at hl 1 rfl) ?_
        refine kx_Vi (G := gC n ad cN cB cL) (σ := ρj) (κ := (3, i)) (ci := 1) (fs := nodeL ad i (ρj.1 i)) (As := []) (rest := []) (n := 0) hx hb hml hown hts hT (ct_N_wants l D hn ad cN cB cL ρj hi H.size) kw_111 kw_112 kw_113 kw_4 kw_114 (by decide +kernel) ⟨rfl, rfl⟩ ⟨Nat.le_of_ble_eq_true rfl, Nat.le_of_ble_eq_true rfl⟩ hK hP hD hS (kC_3 hi) rfl rfl rfl hl.1 (Nat.le_of_ble_eq_true rfl) kd_S_sendRow_68 rfl ⟨Nat.zero_le _, Nat.zero_le _⟩ (fun r_3 τ4 H locs hq5 hP hD hS => ?_)
        obtain ⟨⟨rfl, q_6⟩ | ⟨rfl, q_6⟩, rfl⟩ := hq5
        · refine lv_if_eq (tgt := 86) hx hb kd_S_sendRow_71 (by decide) (fun c0 => absurd c0 (by decide)) (fun _ => ?_)
          refine lv_aload_n hx hb kd_S_sendRow_74 rfl (lv_at hl 0 rfl) ?_
          refine lv_aload_n hx hb kd_S_sendRow_75 rfl (lv_at hl 1 rfl) ?_
          refine kx_get (ci := 1) (fs := nodeL ad i (ρj.1 i)) (v := .ref (ad (4, i / 8))) hx hb hw ki_N hown hK hP (kC_3 hi) rfl rfl 1 (by decide) kw_57 rfl rfl kd_S_sendRow_76 ?_
          refine lv_aload_n hx hb kd_S_sendRow_79 rfl (lv_at hl 1 rfl) ?_
          refine kx_get (ci := 1) (fs := nodeL ad i (ρj.1 i)) (v := .int ((ρj.1 i).2.2.2.2.2.2.2)) hx hb hw ki_N hown hK hP (kC_3 hi) rfl rfl 9 (by decide) kw_68 rfl rfl kd_S_sendRow_80 ?_
          refine kx_Vv (G := gC n ad cN cB cL) (σ := ρj) (κ := (0, 0)) (ci := 2) (fs := thisL ad ρj) (As := [.ref (ad (4, i / 8)), .int ((ρj.1 i).2.2.2.2.2.2.2)]) (rest := []) (n := 2) hx hb hml hown hts hT (ct_S_callBits l D hn ad cN cB cL ρj (nbs_of hi) ((ρj.1 i).2.2.2.2.2.2.2) H.size) kw_175 kw_177 ks_11 kw_1 kw_178 (by decide +kernel) ⟨rfl, rfl⟩ ⟨Nat.le_of_ble_eq_true rfl, Nat.le_of_ble_eq_true rfl⟩ hK hP hD hS kC_0 rfl rfl rfl hl.1 (Nat.le_of_ble_eq_true rfl) kd_S_sendRow_83 rfl ⟨Nat.zero_le _, Nat.zero_le _⟩ (fun τ8 H locs hq9 hP hD hS => ?_)
          have hτ8 := hq9
          refine lv_iload_n hx hb kd_S_sendRow_86 rfl (lv_at hl 4 rfl) ?_
          exact W.iret (v := x2) hx hb hr (fun t ht hW => ⟨⟨x2, τ8, rfl, ⟨by unfold rwR; rw [← hje_j, ← hI_j], by subst hτ8; unfold rwS; rw [← hje_j, ← hI_j]; exact if_pos q_6⟩, by rw [ht]; exact hP, va_K.moved hW.alike hK, hD.weaken (fun _ _ _ _ => trivial)⟩, hS.F ht⟩) hS.2.2 kd_S_sendRow_87
        · refine lv_if_eq (tgt := 86) hx hb kd_S_sendRow_71 (by decide) (fun _ => ?_) (fun c0 => absurd (by decide) c0)
          refine lv_iload_n hx hb kd_S_sendRow_86 rfl (lv_at hl 4 rfl) ?_
          exact W.iret (v := x2) hx hb hr (fun t ht hW => ⟨⟨x2, ρj, rfl, ⟨by unfold rwR; rw [← hje_j, ← hI_j], by unfold rwS; rw [← hje_j, ← hI_j]; exact if_neg q_6⟩, by rw [ht]; exact hP, va_K.moved hW.alike hK, hD.weaken (fun _ _ _ _ => trivial)⟩, hS.F ht⟩) hS.2.2 kd_S_sendRow_87
      · have hlt_j : j < mbs n (i / 8) := lp_go (by unfold mbs; omega) hj_j c_2
        refine lv_aload_n hx hb kd_S_sendRow_32 rfl (lv_at hl 2 rfl) ?_
        refine lv_iload hx hb kd_S_sendRow_33 (lv_at hl 5 rfl) ?_
        refine kx_aald (i := j) hx hb hK hP (kC_5 (nbs_of hi)) 0 rfl rfl rfl hlt_j (by unfold mbs; omega) rfl kd_S_sendRow_35 ?_
        refine lv_astore (lv' := [(6, .ref (ad (3, 8 * (i / 8) + j))), (0, .ref (ad (0, 0))), (1, .ref (ad (3, i))), (3, .ref (ad (5, i / 8))), (4, .int (nI (mbs n (i / 8)))), (2, .int x2), (5, .int (nI j))]) hx hb kd_S_sendRow_36 hl (by decide) rfl (fun ls hl => ?_)
        refine lv_aload hx hb kd_S_sendRow_38 (lv_at hl 0 rfl) ?_
        refine lv_aload_n hx hb kd_S_sendRow_40 rfl (lv_at hl 2 rfl) ?_
        refine kx_acmp_eq (tgt := 61) hx hb hD (kC_3 (mb_lt hlt_j)) (kC_3 hi) kd_S_sendRow_41 (by decide) (fun c_10 => ?_) (fun c_10 => ?_)
        · refine lv_iinc (v := nI (j + 1)) (lv' := [(5, .int (nI (j + 1))), (6, .ref (ad (3, 8 * (i / 8) + j))), (0, .ref (ad (0, 0))), (1, .ref (ad (3, i))), (3, .ref (ad (5, i / 8))), (4, .int (nI (mbs n (i / 8)))), (2, .int x2)]) hx hb kd_S_sendRow_61 hl (k := 6) rfl (nI_1 j) (by decide) rfl (fun ls hl => ?_)
          refine lv_goto (tgt := 25) hx hb kd_S_sendRow_64 (by decide) ?_
          exact ih_j (j + 1) ρj x2 _ _ _ hlt_j (by omega) (hI_j.trans (rwL_1 (pair3 c_10)).symm) hP hD hS (lv_sub hl [2, 3, 4, 5, 6, 0] rfl)
        · refine lv_aload hx hb kd_S_sendRow_44 (lv_at hl 0 rfl) ?_
          refine kx_get (ci := 1) (fs := nodeL ad (8 * (i / 8) + j) (ρj.1 (8 * (i / 8) + j))) (v := .int ((ρj.1 (8 * (i / 8) + j)).1)) hx hb hw ki_N hown hK hP (kC_3 (mb_lt hlt_j)) rfl rfl 2 (by decide) kw_58 rfl rfl kd_S_sendRow_46 ?_
          refine lv_if_eq (tgt := 61) hx hb kd_S_sendRow_49 (by decide) (fun c_11 => ?_) (fun c_11 => ?_)
          · refine lv_iinc (v := nI (j + 1)) (lv' := [(5, .int (nI (j + 1))), (6, .ref (ad (3, 8 * (i / 8) + j))), (0, .ref (ad (0, 0))), (1, .ref (ad (3, i))), (3, .ref (ad (5, i / 8))), (4, .int (nI (mbs n (i / 8)))), (2, .int x2)]) hx hb kd_S_sendRow_61 hl (k := 6) rfl (nI_1 j) (by decide) rfl (fun ls hl => ?_)
            refine lv_goto (tgt := 25) hx hb kd_S_sendRow_64 (by decide) ?_
            exact ih_j (j + 1) ρj x2 _ _ _ hlt_j (by omega) (by rw [rwL_2 (fun e => c_10 (by rw [e])) (by rw [← hI_j]; exact c_11)]; exact hI_j) hP hD hS (lv_sub hl [2, 3, 4, 5, 6, 0] rfl)
          · refine lv_aload_n hx hb kd_S_sendRow_52 rfl (lv_at hl 1 rfl) ?_
            refine lv_aload hx hb kd_S_sendRow_53 (lv_at hl 0 rfl) ?_
            refine kx_Vv (G := gC n ad cN cB cL) (σ := ρj) (κ := (0, 0)) (ci := 2) (fs := thisL ad ρj) (As := [.ref (ad (3, 8 * (i / 8) + j))]) (rest := []) (n := 1) hx hb hml hown hts hT (ct_S_hear l D hn ad cN cB cL ρj (mb_lt hlt_j) H.size) kw_171 kw_173 ks_10 kw_1 kw_174 (by decide +kernel) ⟨rfl, rfl⟩ ⟨Nat.le_of_ble_eq_true rfl, Nat.le_of_ble_eq_true rfl⟩ hK hP hD hS kC_0 rfl rfl rfl hl.1 (Nat.le_of_ble_eq_true rfl) kd_S_sendRow_55 rfl ⟨Nat.zero_le _, Nat.zero_le _⟩ (fun τ13 H locs hq14 hP hD hS => ?_)
            have hτ13 := hq14
            refine lv_iinc (v := x2 + 1) (lv' := [(2, .int (x2 + 1)), (6, .ref (ad (3, 8 * (i / 8) + j))), (0, .ref (ad (0, 0))), (1, .ref (ad (3, i))), (3, .ref (ad (5, i / 8))), (4, .int (nI (mbs n (i / 8)))), (5, .int (nI j))]) hx hb kd_S_sendRow_58 hl (k := 5) rfl rfl (by decide) rfl (fun ls hl => ?_)
            refine lv_iinc (v := nI (j + 1)) (lv' := [(5, .int (nI (j + 1))), (2, .int (x2 + 1)), (6, .ref (ad (3, 8 * (i / 8) + j))), (0, .ref (ad (0, 0))), (1, .ref (ad (3, i))), (3, .ref (ad (5, i / 8))), (4, .int (nI (mbs n (i / 8))))]) hx hb kd_S_sendRow_61 hl (k := 6) rfl (nI_1 j) (by decide) rfl (fun ls hl => ?_)
            refine lv_goto (tgt := 25) hx hb kd_S_sendRow_64 (by decide) ?_
            exact ih_j (j + 1) τ13 (x2 + 1) _ _ _ hlt_j (by omega) (by rw [rwL_3 (fun e => c_10 (by rw [e])) (by rw [← hI_j]; exact c_11), ← hI_j, hτ13]) hP hD hS (lv_sub hl [3, 4, 5, 6, 1, 0] rfl)
  exact loop (mbs n (i / 8) + 1) 0 τ1 0 _ _ _ (Nat.zero_le _) (by omega) (by rw [← hτ1]; rfl) hP hD hS (lv_sub hl [4, 5, 2, 1, 3, 0] rfl)
/-- the buses of a group are STILL -/
abbrev stl (n : Nat) (σ : CS) (g : Int32) : Prop := (∀ b, b < nbs n → (σ.2.1 b).1 = g → (σ.2.1 b).2.1 ≤ 0) ∧ (∀ i, i < n → (σ.2.1 (i / 8)).1 = g → (σ.1 i).1 = 2 → 10 ≤ σ.2.2.1 - (σ.1 i).2.2.1)
set_option maxHeartbeats 4000000 in
set_option maxRecDepth 100000 in
theorem ct_S_isStill (l : Launch) (D : va_G) {n : Nat} (hn : 1 ≤ n ∧ n ≤ 64) (ad : Nat × Nat → Nat) (cN cB cL : ClassId) (σ : CS) (x : Int32) (sz : Nat) : Met l ky_S_isStill (km ky_S_isStill kc_S_isStill 6 (some .boolean)) ({ frames := 0, cells := 0, slots := 0, locals := 0 }) (cPre D n ad cN cB cL σ [.ref (ad (0, 0)), .int x] sz) (cQi D n ad cN cB cL sz (fun r τ => ((r = 1 ∧ stl n σ x) ∨ (r = 0 ∧ ¬ stl n σ x)) ∧ σ = τ)) 0 0 (kA (kC n) ad sz) := by
  refine Met.ofW (cc := kc_S_isStill) (maxL := 6) (ret := (some .boolean)) (by decide) rfl ?_
  intro p e s m args below meth c s₁ B hml hv
  obtain ⟨rfl, hsz, hP, hK, hD0⟩ := hv
  have hx := B.exec
  have hb := B.bytes
  have hr := B.returns
  have hts := atoms_spec (ws := km ky_S_isStill kc_S_isStill 6 (some .boolean)) B.pre
  have hT : ∀ w ∈ kB_l, w ∈ km ky_S_isStill kc_S_isStill 6 (some .boolean) := fun w h => List.mem_cons_of_mem _ h
  have hw := fun w h => hts w (hT w h)
  have hown : s.vm.findClass kR_S = some m.cls := findClass_of_methodNamed B.named
  have hlocks := B.notSynchronized
  subst hsz
  have hD : va_D (kA (kC n) ad s.heap.size) (kW (kC n) ad (gC n ad cN cB cL σ)) := kD_any _ hD0
  have hS : va_S (kA (kC n) ad s.heap.size) s.heap s.heap [] := va_S.rf
  have hl := lv_entry ([.ref (ad (0, 0)), .int x]) (n := 6) (Nat.le_of_ble_eq_true rfl)
  rw [lg_entry_eq]
  generalize (lg_sl ([.ref (ad (0, 0)), .int x]) ++ List.replicate (6 - (lg_sl ([.ref (ad (0, 0)), .int x])).length) Slot.unset).toArray = ls at hl ⊢
  have hl : lv_has ls 6 [(0, .ref (ad (0, 0))), (1, .int x)] := hl
  refine lv_aload_n hx hb kd_S_isStill_0 rfl (lv_at hl 0 rfl) ?_
  refine kx_get (ci := 2) (fs := thisL ad σ) (v := .ref (ad (2, 0))) hx hb hw ki_S hown hK hP kC_0 rfl rfl 1 (by decide) kw_91 rfl rfl kd_S_isStill_1 ?_
  refine lv_astore_n (lv' := [(2, .ref (ad (2, 0))), (0, .ref (ad (0, 0))), (1, .int x)]) hx hb kd_S_isStill_4 rfl hl (by decide) rfl (fun ls hl => ?_)
  refine lv_aload_n hx hb kd_S_isStill_5 rfl (lv_at hl 0 rfl) ?_
  refine kx_alen (n := nbs n) hx hb hK hP kC_2 1 rfl rfl kd_S_isStill_6 ?_
  refine lv_istore_n (lv' := [(3, .int (nI (nbs n))), (2, .ref (ad (2, 0))), (0, .ref (ad (0, 0))), (1, .int x)]) hx hb kd_S_isStill_7 rfl hl (by decide) rfl (fun ls hl => ?_)
  refine lv_iconst (v := 0) hx hb kd_S_isStill_8 (by decide) ?_
  refine lv_istore (lv' := [(4, .int 0), (3, .int (nI (nbs n))), (2, .ref (ad (2, 0))), (0, .ref (ad (0, 0))), (1, .int x)]) hx hb kd_S_isStill_9 hl (by decide) rfl (fun ls hl => ?_)
  have loop : ∀ (q j : Nat) (ρj : CS)  (H : Heap) (locs : List Loc) (ls : Array Slot), j ≤ nbs n → nbs n < j + q → (σ = ρj ∧ ∀ b, b < j → (σ.2.1 b).1 = x → (σ.2.1 b).2.1 ≤ 0) → va_P D kCl (kW (kC n) ad (gC n ad cN cB cL ρj)) H → va_D (kA (kC n) ad s.heap.size) (kW (kC n) ad (gC n ad cN cB cL ρj)) → va_S (kA (kC n) ad s.heap.size) s.heap H locs → lv_has ls 6 [(0, .ref (ad (0, 0))), (1, .int x), (2, .ref (ad (2, 0))), (3, .int (nI (nbs n))), (4, .int (nI j))] → W p l e (headSpec (km ky_S_isStill kc_S_isStill 6 (some .boolean)) ({ frames := 0, cells := 0, slots := 0, locals := 0 })).room s m [.ref (ad (0, 0)), .int x].toArray below meth c H locs 0 0 (MQ below (cQi D n ad cN cB cL s.heap.size (fun r τ => ((r = 1 ∧ stl n σ x) ∨ (r = 0 ∧ ¬ stl n σ x)) ∧ σ = τ)) [.ref (ad (0, 0)), .int x].toArray s 0 0 (kA (kC n) ad s.heap.size)) (F0 m 11 ls []) := by
    intro q
    induction q with
    | zero => intro j ρj  H locs ls hj_j hq_j; exact absurd hq_j (by omega)
    | succ q ih_j =>
      intro j ρj  H locs ls hj_j hq_j hI_j hP hD hS hl
      obtain ⟨rfl, hI_j⟩ := hI_j
      refine lv_iload hx hb kd_S_isStill_11 (lv_at hl 4 rfl) ?_
      refine lv_iload_n hx hb kd_S_isStill_13 rfl (lv_at hl 3 rfl) ?_
      refine lv_icmp_ge (tgt := 48) hx hb kd_S_isStill_14 (by decide) (fun c_1 => ?_) (fun c_1 => ?_)
      · have hje_j : j = nbs n := lp_end (by unfold nbs; omega) hj_j c_1
        refine lv_aload_n hx hb kd_S_isStill_48 rfl (lv_at hl 0 rfl) ?_
        refine kx_get (ci := 2) (fs := thisL ad σ) (v := .ref (ad (1, 0))) hx hb hw ki_S hown hK hP kC_0 rfl rfl 0 (by decide) kw_90 rfl rfl kd_S_isStill_49 ?_
        refine lv_astore_n (lv' := [(2, .ref (ad (1, 0))), (0, .ref (ad (0, 0))), (1, .int x), (3, .int (nI (nbs n))), (4, .int (nI j))]) hx hb kd_S_isStill_52 rfl hl (by decide) rfl (fun ls hl => ?_)
        refine lv_aload_n hx hb kd_S_isStill_53 rfl (lv_at hl 0 rfl) ?_
        refine kx_alen (n := n) hx hb hK hP kC_1 0 rfl rfl kd_S_isStill_54 ?_
        refine lv_istore_n (lv' := [(3, .int (nI n)), (2, .ref (ad (1, 0))), (0, .ref (ad (0, 0))), (1, .int x), (4, .int (nI j))]) hx hb kd_S_isStill_55 rfl hl (by decide) rfl (fun ls hl => ?_)
        refine lv_iconst (v := 0) hx hb kd_S_isStill_56 (by decide) ?_
        refine lv_istore (lv' := [(4, .int 0), (3, .int (nI n)), (2, .ref (ad (1, 0))), (0, .ref (ad (0, 0))), (1, .int x)]) hx hb kd_S_isStill_57 hl (by decide) rfl (fun ls hl => ?_)
        have loop2 : ∀ (q k : Nat) (ρk : CS)  (H : Heap) (locs : List Loc) (ls : Array Slot), k ≤ n → n < k + q → (σ = ρk ∧ ∀ i, i < k → (σ.2.1 (i / 8)).1 = x → (σ.1 i).1 = 2 → 10 ≤ σ.2.2.1 - (σ.1 i).2.2.1) → va_P D kCl (kW (kC n) ad (gC n ad cN cB cL ρk)) H → va_D (kA (kC n) ad s.heap.size) (kW (kC n) ad (gC n ad cN cB cL ρk)) → va_S (kA (kC n) ad s.heap.size) s.heap H locs → lv_has ls 6 [(0, .ref (ad (0, 0))), (1, .int x), (2, .ref (ad (1, 0))), (3, .int (nI n)), (4, .int (nI k))] → W p l e (headSpec (km ky_S_isStill kc_S_isStill 6 (some .boolean)) ({ frames := 0, cells := 0, slots := 0, locals := 0 })).room s m [.ref (ad (0, 0)), .int x].toArray below meth c H locs 0 0 (MQ below (cQi D n ad cN cB cL s.heap.size (fun r τ => ((r = 1 ∧ stl n σ x) ∨ (r = 0 ∧ ¬ stl n σ x)) ∧ σ = τ)) [.ref (ad (0, 0)), .int x].toArray s 0 0 (kA (kC n) ad s.heap.size)) (F0 m 59 ls []) := by
          intro q
          induction q with
          | zero => intro k ρk  H locs ls hj_k hq_k; exact absurd hq_k (by omega)
          | succ q ih_k =>
            intro k ρk  H locs ls hj_k hq_k hI_k hP hD hS hl
            obtain ⟨rfl, hI_k⟩ := hI_k
            refine lv_iload hx hb kd_S_isStill_59 (lv_at hl 4 rfl) ?_
            refine lv_iload_n hx hb kd_S_isStill_61 rfl (lv_at hl 3 rfl) ?_
            refine lv_icmp_ge (tgt := 117) hx hb kd_S_isStill_62 (by decide) (fun c_2 => ?_) (fun c_2 => ?_)
            · have hje_k : k = n := lp_end (by omega) hj_k c_2
              refine lv_iconst (v := 1) hx hb kd_S_isStill_117 (by decide) ?_
              exact W.zret (v := 1) hx hb hr rfl (fun t ht hW => ⟨⟨1, σ, rfl, ⟨Or.inl ⟨rfl, fun b hb1 => hI_j b (by omega), fun i hi1 => hI_k i (by omega)⟩, rfl⟩, by rw [ht]; exact hP, va_K.moved hW.alike hK, hD.weaken (fun _ _ _ _ => trivial)⟩, hS.F ht⟩) hS.2.2 kd_S_isStill_118
            · have hlt_k : k < n := lp_go (by omega) hj_k c_2
              refine lv_aload_n hx hb kd_S_isStill_65 rfl (lv_at hl 2 rfl) ?_
              refine lv_iload hx hb kd_S_isStill_66 (lv_at hl 4 rfl) ?_
              refine kx_aald (i := k) hx hb hK hP kC_1 0 rfl rfl rfl hlt_k (by omega) rfl kd_S_isStill_68 ?_
              refine lv_astore (lv' := [(5, .ref (ad (3, k))), (0, .ref (ad (0, 0))), (1, .int x), (2, .ref (ad (1, 0))), (3, .int (nI n)), (4, .int (nI k))]) hx hb kd_S_isStill_69 hl (by decide) rfl (fun ls hl => ?_)
              refine lv_aload hx hb kd_S_isStill_71 (lv_at hl 0 rfl) ?_
              refine kx_get (ci := 1) (fs := nodeL ad k (σ.1 k)) (v := .ref (ad (4, k / 8))) hx hb hw ki_N hown hK hP (kC_3 hlt_k) rfl rfl 1 (by decide) kw_57 rfl rfl kd_S_isStill_73 ?_
              refine kx_get (ci := 0) (fs := busL ad (k / 8) (σ.2.1 (k / 8))) (v := .int ((σ.2.1 (k / 8)).1)) hx hb hw ki_B hown hK hP (kC_4 (nbs_of hlt_k)) rfl rfl 2 (by decide) kw_37 rfl rfl kd_S_isStill_76 ?_
              refine lv_iload_n hx hb kd_S_isStill_79 rfl (lv_at hl 2 rfl) ?_
              refine lv_icmp_ne (tgt := 111) hx hb kd_S_isStill_80 (by decide) (fun c_3 => ?_) (fun c_3 => ?_)
              · refine lv_iinc (v := nI (k + 1)) (lv' := [(4, .int (nI (k + 1))), (5, .ref (ad (3, k))), (0, .ref (ad (0, 0))), (1, .int x), (2, .ref (ad (1, 0))), (3, .int (nI n))]) hx hb kd_S_isStill_111 hl (k := 5) rfl (nI_1 k) (by decide) rfl (fun ls hl => ?_)
                refine lv_goto (tgt := 59) hx hb kd_S_isStill_114 (by decide) ?_
                exact ih_k (k + 1) σ  _ _ _ hlt_k (by omega) ⟨rfl, lt_s hI_k (fun e => absurd e c_3)⟩ hP hD hS (lv_sub hl [2, 3, 4, 5, 0] rfl)
              · refine lv_aload hx hb kd_S_isStill_83 (lv_at hl 0 rfl) ?_
                refine kx_get (ci := 1) (fs := nodeL ad k (σ.1 k)) (v := .int ((σ.1 k).1)) hx hb hw ki_N hown hK hP (kC_3 hlt_k) rfl rfl 2 (by decide) kw_58 rfl rfl kd_S_isStill_85 ?_
                refine lv_iconst (v := 2) hx hb kd_S_isStill_88 (by decide) ?_
                refine lv_icmp_ne (tgt := 111) hx hb kd_S_isStill_89 (by decide) (fun c_4 => ?_) (fun c_4 => ?_)
                · refine lv_iinc (v := nI (k + 1)) (lv' := [(4, .int (nI (k + 1))), (5, .ref (ad (3, k))), (0, .ref (ad (0, 0))), (1, .int x), (2, .ref (ad (1, 0))), (3, .int (nI n))]) hx hb kd_S_isStill_111 hl (k := 5) rfl (nI_1 k) (by decide) rfl (fun ls hl => ?_)
                  refine lv_goto (tgt := 59) hx hb kd_S_isStill_114 (by decide) ?_
                  exact ih_k (k + 1) σ  _ _ _ hlt_k (by omega) ⟨rfl, lt_s hI_k (fun _ e => absurd e c_4)⟩ hP hD hS (lv_sub hl [2, 3, 4, 5, 0] rfl)
                · refine lv_aload_n hx hb kd_S_isStill_92 rfl (lv_at hl 1 rfl) ?_
                  refine kx_get (ci := 2) (fs := thisL ad σ) (v := .long σ.2.2.1) hx hb hw ki_S hown hK hP kC_0 rfl rfl 2 (by decide) kw_92 rfl rfl kd_S_isStill_93 ?_
                  refine lv_aload hx hb kd_S_isStill_96 (lv_at hl 0 rfl) ?_
                  refine kx_get (ci := 1) (fs := nodeL ad k (σ.1 k)) (v := .long ((σ.1 k).2.2.1)) hx hb hw ki_N hown hK hP (kC_3 hlt_k) rfl rfl 4 (by decide) kw_61 rfl rfl kd_S_isStill_98 ?_
                  refine lv_lsub hx hb kd_S_isStill_101 ?_
                  refine lv_ldc2 (v := 10) hx hb hown (hw _ kw_161) kd_S_isStill_102 ?_
                  refine W.lcmp hx hb kd_S_isStill_105 ?_
                  refine lv_if_ge (tgt := 111) hx hb kd_S_isStill_106 (by decide) (fun c_5 => ?_) (fun c_5 => ?_)
                  · have c_5 := (lg_cmp_ge _ _).mp c_5
                    refine lv_iinc (v := nI (k + 1)) (lv' := [(4, .int (nI (k + 1))), (5, .ref (ad (3, k))), (0, .ref (ad (0, 0))), (1, .int x), (2, .ref (ad (1, 0))), (3, .int (nI n))]) hx hb kd_S_isStill_111 hl (k := 5) rfl (nI_1 k) (by decide) rfl (fun ls hl => ?_)
                    refine lv_goto (tgt := 59) hx hb kd_S_isStill_114 (by decide) ?_
                    exact ih_k (k + 1) σ  _ _ _ hlt_k (by omega) ⟨rfl, lt_s hI_k (fun _ _ => c_5)⟩ hP hD hS (lv_sub hl [2, 3, 4, 5, 0] rfl)
                  · have c_5 := fun h => c_5 ((lg_cmp_ge _ _).mpr h)
                    refine lv_iconst (v := 0) hx hb kd_S_isStill_109 (by decide) ?_
                    exact W.zret (v := 0) hx hb hr rfl (fun t ht hW => ⟨⟨0, σ, rfl, ⟨Or.inr ⟨rfl, fun h => c_5 (h.2 k hlt_k c_3 c_4)⟩, rfl⟩, by rw [ht]; exact hP, va_K.moved hW.alike hK, hD.weaken (fun _ _ _ _ => trivial)⟩, hS.F ht⟩) hS.2.2 kd_S_isStill_110
        exact loop2 (n + 1) 0 σ  _ _ _ (Nat.zero_le _) (by omega) ⟨rfl, lt_0⟩ hP hD hS (lv_sub hl [3, 4, 2, 1, 0] rfl)
      · have hlt_j : j < nbs n := lp_go (by unfold nbs; omega) hj_j c_1
        refine lv_aload_n hx hb kd_S_isStill_17 rfl (lv_at hl 2 rfl) ?_
        refine lv_iload hx hb kd_S_isStill_18 (lv_at hl 4 rfl) ?_
        refine kx_aald (i := j) hx hb hK hP kC_2 1 rfl rfl rfl hlt_j (by unfold nbs; omega) rfl kd_S_isStill_20 ?_
        refine lv_astore (lv' := [(5, .ref (ad (4, j))), (0, .ref (ad (0, 0))), (1, .int x), (2, .ref (ad (2, 0))), (3, .int (nI (nbs n))), (4, .int (nI j))]) hx hb kd_S_isStill_21 hl (by decide) rfl (fun ls hl => ?_)
        refine lv_aload hx hb kd_S_isStill_23 (lv_at hl 0 rfl) ?_
        refine kx_get (ci := 0) (fs := busL ad j (σ.2.1 j)) (v := .int ((σ.2.1 j).1)) hx hb hw ki_B hown hK hP (kC_4 hlt_j) rfl rfl 2 (by decide) kw_37 rfl rfl kd_S_isStill_25 ?_
        refine lv_iload_n hx hb kd_S_isStill_28 rfl (lv_at hl 2 rfl) ?_
        refine lv_icmp_ne (tgt := 42) hx hb kd_S_isStill_29 (by decide) (fun c_6 => ?_) (fun c_6 => ?_)
        · refine lv_iinc (v := nI (j + 1)) (lv' := [(4, .int (nI (j + 1))), (5, .ref (ad (4, j))), (0, .ref (ad (0, 0))), (1, .int x), (2, .ref (ad (2, 0))), (3, .int (nI (nbs n)))]) hx hb kd_S_isStill_42 hl (k := 5) rfl (nI_1 j) (by decide) rfl (fun ls hl => ?_)
          refine lv_goto (tgt := 11) hx hb kd_S_isStill_45 (by decide) ?_
          exact ih_j (j + 1) σ  _ _ _ hlt_j (by omega) ⟨rfl, lt_s hI_j (fun e => absurd e c_6)⟩ hP hD hS (lv_sub hl [2, 3, 4, 5, 0] rfl)
        · refine lv_aload hx hb kd_S_isStill_32 (lv_at hl 0 rfl) ?_
          refine kx_get (ci := 0) (fs := busL ad j (σ.2.1 j)) (v := .int ((σ.2.1 j).2.1)) hx hb hw ki_B hown hK hP (kC_4 hlt_j) rfl rfl 3 (by decide) kw_38 rfl rfl kd_S_isStill_34 ?_
          refine lv_if_le (tgt := 42) hx hb kd_S_isStill_37 (by decide) (fun c_7 => ?_) (fun c_7 => ?_)
          · refine lv_iinc (v := nI (j + 1)) (lv' := [(4, .int (nI (j + 1))), (5, .ref (ad (4, j))), (0, .ref (ad (0, 0))), (1, .int x), (2, .ref (ad (2, 0))), (3, .int (nI (nbs n)))]) hx hb kd_S_isStill_42 hl (k := 5) rfl (nI_1 j) (by decide) rfl (fun ls hl => ?_)
            refine lv_goto (tgt := 11) hx hb kd_S_isStill_45 (by decide) ?_
            exact ih_j (j + 1) σ  _ _ _ hlt_j (by omega) ⟨rfl, lt_s hI_j (fun e => c_7)⟩ hP hD hS (lv_sub hl [2, 3, 4, 5, 0] rfl)
          · refine lv_iconst (v := 0) hx hb kd_S_isStill_40 (by decide) ?_
            exact W.zret (v := 0) hx hb hr rfl (fun t ht hW => ⟨⟨0, σ, rfl, ⟨Or.inr ⟨rfl, fun h => c_7 (h.1 j hlt_j c_6)⟩, rfl⟩, by rw [ht]; exact hP, va_K.moved hW.alike hK, hD.weaken (fun _ _ _ _ => trivial)⟩, hS.F ht⟩) hS.2.2 kd_S_isStill_41
  exact loop (nbs n + 1) 0 σ  _ _ _ (Nat.zero_le _) (by omega) ⟨rfl, lt_0⟩ hP hD hS (lv_sub hl [3, 4, 2, 1, 0] rfl)
theorem sw_out {x : Int32} (h1 : ¬ x = 1) (h2 : ¬ x = 2) (h3 : ¬ x = 3) (h4 : ¬ x = 4) : x.toInt < 1 ∨ 4 < x.toInt := by
  apply Decidable.byContradiction
  intro h
  have : x.toInt = 1 ∨ x.toInt = 2 ∨ x.toInt = 3 ∨ x.toInt = 4 := by omega
  rcases this with e | e | e | e
  · exact h1 (Int32.toInt_inj.mp (by rw [e]; rfl))
  · exact h2 (Int32.toInt_inj.mp (by rw [e]; rfl))
  · exact h3 (Int32.toInt_inj.mp (by rw [e]; rfl))
  · exact h4 (Int32.toInt_inj.mp (by rw [e]; rfl))
/-- a node in the first half of a tick -/
def chS (n : Nat) (σ : CS) (i : Nat) : CS :=
  if (σ.1 i).1 = 1 then (if σ.2.2.1 - (σ.1 i).2.1 < 5 then σ else cmT σ i 0)
  else if (σ.1 i).1 = 2 then (if wnt (σ.1 i) then cmT σ i 3 else if stl n σ (σ.2.1 (i / 8)).1 then cmT σ i 1 else σ)
  else if (σ.1 i).1 = 3 then (if wnt (σ.1 i) then σ else cmT σ i 2)
  else if (σ.1 i).1 = 4 then (if σ.2.2.1 - (σ.1 i).2.1 < 20 then σ else if wnt (σ.1 i) then cmT σ i 3 else cmT σ i 2)
  else σ
def chA (n : Nat) (σ : CS) : Nat → CS
  | 0 => σ
  | k + 1 => chS n (chA n σ k) k
set_option maxHeartbeats 4000000 in
set_option maxRecDepth 100000 in
theorem ct_S_changeState (l : Launch) (D : va_G) {n : Nat} (hn : 1 ≤ n ∧ n ≤ 64) (ad : Nat × Nat → Nat) (cN cB cL : ClassId) (σ : CS) {i : Nat} (hi : i < n) (sz : Nat) : Met l ky_S_changeState (km ky_S_changeState kc_S_changeState 4 none) ({ frames := 2, cells := 0, slots := 0, locals := 42 }) (cPre D n ad cN cB cL σ [.ref (ad (0, 0)), .ref (ad (3, i))] sz) (cQv D n ad cN cB cL sz (fun τ => chS n σ i = τ)) 0 0 (kA (kC n) ad sz) := by
  refine Met.ofW (cc := kc_S_changeState) (maxL := 4) (ret := none) (by decide) rfl ?_
  intro p e s m args below meth c s₁ B hml hv
  obtain ⟨rfl, hsz, hP, hK, hD0⟩ := hv
  have hx := B.exec
  have hb := B.bytes
  have hr := B.returns
  have hts := atoms_spec (ws := km ky_S_changeState kc_S_changeState 4 none) B.pre
  have hT : ∀ w ∈ kB_l, w ∈ km ky_S_changeState kc_S_changeState 4 none := fun w h => List.mem_cons_of_mem _ h
  have hw := fun w h => hts w (hT w h)
  have hown : s.vm.findClass kR_S = some m.cls := findClass_of_methodNamed B.named
  have hlocks := B.notSynchronized
  subst hsz
  have hD : va_D (kA (kC n) ad s.heap.size) (kW (kC n) ad (gC n ad cN cB cL σ)) := kD_any _ hD0
  have hS : va_S (kA (kC n) ad s.heap.size) s.heap s.heap [] := va_S.rf
  have hl := lv_entry ([.ref (ad (0, 0)), .ref (ad (3, i))]) (n := 4) (Nat.le_of_ble_eq_true rfl)
  rw [lg_entry_eq]
  generalize (lg_sl ([.ref (ad (0, 0)), .ref (ad (3, i))]) ++ List.replicate (4 - (lg_sl ([.ref (ad (0, 0)), .ref (ad (3, i))])).length) Slot.unset).toArray = ls at hl ⊢
  have hl : lv_has ls 4 [(0, .ref (ad (0, 0))), (1, .ref (ad (3, i)))] := hl
  refine lv_aload_n hx hb kd_S_changeState_0 rfl (lv_at hl 0 rfl) ?_
  refine kx_get (ci := 2) (fs := thisL ad σ) (v := .long σ.2.2.1) hx hb hw ki_S hown hK hP kC_0 rfl rfl 2 (by decide) kw_92 rfl rfl kd_S_changeState_1 ?_
  refine lv_aload_n hx hb kd_S_changeState_4 rfl (lv_at hl 1 rfl) ?_
  refine kx_get (ci := 1) (fs := nodeL ad i (σ.1 i)) (v := .long ((σ.1 i).2.1)) hx hb hw ki_N hown hK hP (kC_3 hi) rfl rfl 3 (by decide) kw_60 rfl rfl kd_S_changeState_5 ?_
  refine lv_lsub hx hb kd_S_changeState_8 ?_
  refine lv_lstore_n (lv' := [(2, .long (σ.2.2.1 - ((σ.1 i).2.1))), (0, .ref (ad (0, 0))), (1, .ref (ad (3, i)))]) hx hb kd_S_changeState_9 rfl hl (by decide) rfl (fun ls hl => ?_)
  refine lv_aload_n hx hb kd_S_changeState_10 rfl (lv_at hl 2 rfl) ?_
  refine kx_get (ci := 1) (fs := nodeL ad i (σ.1 i)) (v := .int ((σ.1 i).1)) hx hb hw ki_N hown hK hP (kC_3 hi) rfl rfl 2 (by decide) kw_58 rfl rfl kd_S_changeState_11 ?_
  by_cases d_1 : (σ.1 i).1 = 1
  · refine lv_tableIn (off := 113) (tgt := 127) hx hb kd_S_changeState_14 (by rw [d_1]; decide) (by rw [d_1]; decide) (by rw [d_1]; rfl) (by decide) ?_
    refine lv_lload_n hx hb kd_S_changeState_127 rfl (lv_at hl 0 rfl) ?_
    refine lv_ldc2 (v := 5) hx hb hown (hw _ kw_162) kd_S_changeState_128 ?_
    refine W.lcmp hx hb kd_S_changeState_131 ?_
    refine lv_if_lt (tgt := 144) hx hb kd_S_changeState_132 (by decide) (fun c_1 => ?_) (fun c_1 => ?_)
    · have c_1 := (lg_cmp_lt _ _).mp c_1
      exact W.vret hx hb hr (fun t ht hW => ⟨⟨σ, rfl, by unfold chS; rw [if_pos d_1, if_pos c_1], by rw [ht]; exact hP, va_K.moved hW.alike hK, hD.weaken (fun _ _ _ _ => trivial)⟩, hS.F ht⟩) hS.2.2 kd_S_changeState_144
    · have c_1 := fun h => c_1 ((lg_cmp_lt _ _).mpr h)
      refine lv_aload_n hx hb kd_S_changeState_135 rfl (lv_at hl 1 rfl) ?_
      refine lv_aload_n hx hb kd_S_changeState_136 rfl (lv_at hl 2 rfl) ?_
      refine lv_iconst (v := 0) hx hb kd_S_changeState_137 (by decide) ?_
      refine kx_Vv (G := gC n ad cN cB cL) (σ := σ) (κ := (0, 0)) (ci := 2) (fs := thisL ad σ) (As := [.ref (ad (3, i)), .int 0]) (rest := []) (n := 2) hx hb hml hown hts hT (ct_S_comeTo l D hn ad cN cB cL σ hi 0 s.heap.size) kw_123 kw_125 ks_2 kw_1 kw_126 (by decide +kernel) ⟨rfl, rfl⟩ ⟨Nat.le_of_ble_eq_true rfl, Nat.le_of_ble_eq_true rfl⟩ hK hP hD hS kC_0 rfl rfl rfl hl.1 (Nat.le_of_ble_eq_true rfl) kd_S_changeState_138 rfl ⟨Nat.zero_le _, Nat.zero_le _⟩ (fun τ3 H locs hq4 hP hD hS => ?_)
      have hτ3 := hq4
      refine lv_goto (tgt := 144) hx hb kd_S_changeState_141 (by decide) ?_
      exact W.vret hx hb hr (fun t ht hW => ⟨⟨τ3, rfl, by subst hτ3; unfold chS; rw [if_pos d_1, if_neg c_1], by rw [ht]; exact hP, va_K.moved hW.alike hK, hD.weaken (fun _ _ _ _ => trivial)⟩, hS.F ht⟩) hS.2.2 kd_S_changeState_144
  · by_cases d_2 : (σ.1 i).1 = 2
    · refine lv_tableIn (off := 74) (tgt := 88) hx hb kd_S_changeState_14 (by rw [d_2]; decide) (by rw [d_2]; decide) (by rw [d_2]; rfl) (by decide) ?_
      refine lv_aload_n hx hb kd_S_changeState_88 rfl (lv_at hl 2 rfl) ?_
      refine kx_Vi (G := gC n ad cN cB cL) (σ := σ) (κ := (3, i)) (ci := 1) (fs := nodeL ad i (σ.1 i)) (As := []) (rest := []) (n := 0) hx hb hml hown hts hT (ct_N_wants l D hn ad cN cB cL σ hi s.heap.size) kw_111 kw_112 kw_113 kw_4 kw_114 (by decide +kernel) ⟨rfl, rfl⟩ ⟨Nat.le_of_ble_eq_true rfl, Nat.le_of_ble_eq_true rfl⟩ hK hP hD hS (kC_3 hi) rfl rfl rfl hl.1 (Nat.le_of_ble_eq_true rfl) kd_S_changeState_89 rfl ⟨Nat.zero_le _, Nat.zero_le _⟩ (fun r_5 τ6 H locs hq7 hP hD hS => ?_)
      obtain ⟨⟨rfl, q_8⟩ | ⟨rfl, q_8⟩, rfl⟩ := hq7
      · refine lv_if_eq (tgt := 104) hx hb kd_S_changeState_92 (by decide) (fun c0 => absurd c0 (by decide)) (fun _ => ?_)
        refine lv_aload_n hx hb kd_S_changeState_95 rfl (lv_at hl 1 rfl) ?_
        refine lv_aload_n hx hb kd_S_changeState_96 rfl (lv_at hl 2 rfl) ?_
        refine lv_iconst (v := 3) hx hb kd_S_changeState_97 (by decide) ?_
        refine kx_Vv (G := gC n ad cN cB cL) (σ := σ) (κ := (0, 0)) (ci := 2) (fs := thisL ad σ) (As := [.ref (ad (3, i)), .int 3]) (rest := []) (n := 2) hx hb hml hown hts hT (ct_S_comeTo l D hn ad cN cB cL σ hi 3 H.size) kw_123 kw_125 ks_2 kw_1 kw_126 (by decide +kernel) ⟨rfl, rfl⟩ ⟨Nat.le_of_ble_eq_true rfl, Nat.le_of_ble_eq_true rfl⟩ hK hP hD hS kC_0 rfl rfl rfl hl.1 (Nat.le_of_ble_eq_true rfl) kd_S_changeState_98 rfl ⟨Nat.zero_le _, Nat.zero_le _⟩ (fun τ10 H locs hq11 hP hD hS => ?_)
        have hτ10 := hq11
        refine lv_goto (tgt := 144) hx hb kd_S_changeState_101 (by decide) ?_
        exact W.vret hx hb hr (fun t ht hW => ⟨⟨τ10, rfl, by subst hτ10; unfold chS; rw [if_neg d_1, if_pos d_2, if_pos q_8], by rw [ht]; exact hP, va_K.moved hW.alike hK, hD.weaken (fun _ _ _ _ => trivial)⟩, hS.F ht⟩) hS.2.2 kd_S_changeState_144
      · refine lv_if_eq (tgt := 104) hx hb kd_S_changeState_92 (by decide) (fun _ => ?_) (fun c0 => absurd (by decide) c0)
        refine lv_aload_n hx hb kd_S_changeState_104 rfl (lv_at hl 1 rfl) ?_
        refine lv_aload_n hx hb kd_S_changeState_105 rfl (lv_at hl 2 rfl) ?_
        refine kx_get (ci := 1) (fs := nodeL ad i (σ.1 i)) (v := .ref (ad (4, i / 8))) hx hb hw ki_N hown hK hP (kC_3 hi) rfl rfl 1 (by decide) kw_57 rfl rfl kd_S_changeState_106 ?_
        refine kx_get (ci := 0) (fs := busL ad (i / 8) (σ.2.1 (i / 8))) (v := .int ((σ.2.1 (i / 8)).1)) hx hb hw ki_B hown hK hP (kC_4 (nbs_of hi)) rfl rfl 2 (by decide) kw_37 rfl rfl kd_S_changeState_109 ?_
        refine kx_Vi (G := gC n ad cN cB cL) (σ := σ) (κ := (0, 0)) (ci := 2) (fs := thisL ad σ) (As := [.int ((σ.2.1 (i / 8)).1)]) (rest := []) (n := 1) hx hb hml hown hts hT (ct_S_isStill l D hn ad cN cB cL σ ((σ.2.1 (i / 8)).1) H.size) kw_157 kw_159 ks_7 kw_1 kw_160 (by decide +kernel) ⟨rfl, rfl⟩ ⟨Nat.le_of_ble_eq_true rfl, Nat.le_of_ble_eq_true rfl⟩ hK hP hD hS kC_0 rfl rfl rfl hl.1 (Nat.le_of_ble_eq_true rfl) kd_S_changeState_112 rfl ⟨Nat.zero_le _, Nat.zero_le _⟩ (fun r_12 τ13 H locs hq14 hP hD hS => ?_)
        obtain ⟨⟨rfl, q_15⟩ | ⟨rfl, q_15⟩, rfl⟩ := hq14
        · refine lv_if_eq (tgt := 144) hx hb kd_S_changeState_115 (by decide) (fun c0 => absurd c0 (by decide)) (fun _ => ?_)
          refine lv_aload_n hx hb kd_S_changeState_118 rfl (lv_at hl 1 rfl) ?_
          refine lv_aload_n hx hb kd_S_changeState_119 rfl (lv_at hl 2 rfl) ?_
          refine lv_iconst (v := 1) hx hb kd_S_changeState_120 (by decide) ?_
          refine kx_Vv (G := gC n ad cN cB cL) (σ := σ) (κ := (0, 0)) (ci := 2) (fs := thisL ad σ) (As := [.ref (ad (3, i)), .int 1]) (rest := []) (n := 2) hx hb hml hown hts hT (ct_S_comeTo l D hn ad cN cB cL σ hi 1 H.size) kw_123 kw_125 ks_2 kw_1 kw_126 (by decide +kernel) ⟨rfl, rfl⟩ ⟨Nat.le_of_ble_eq_true rfl, Nat.le_of_ble_eq_true rfl⟩ hK hP hD hS kC_0 rfl rfl rfl hl.1 (Nat.le_of_ble_eq_true rfl) kd_S_changeState_121 rfl ⟨Nat.zero_le _, Nat.zero_le _⟩ (fun τ17 H locs hq18 hP hD hS => ?_)
          have hτ17 := hq18
          refine lv_goto (tgt := 144) hx hb kd_S_changeState_124 (by decide) ?_
          exact W.vret hx hb hr (fun t ht hW => ⟨⟨τ17, rfl, by subst hτ17; unfold chS; rw [if_neg d_1, if_pos d_2, if_neg q_8, if_pos q_15], by rw [ht]; exact hP, va_K.moved hW.alike hK, hD.weaken (fun _ _ _ _ => trivial)⟩, hS.F ht⟩) hS.2.2 kd_S_changeState_144
        · refine lv_if_eq (tgt := 144) hx hb kd_S_changeState_115 (by decide) (fun _ => ?_) (fun c0 => absurd (by decide) c0)
          exact W.vret hx hb hr (fun t ht hW => ⟨⟨σ, rfl, by unfold chS; rw [if_neg d_1, if_pos d_2, if_neg q_8, if_neg q_15], by rw [ht]; exact hP, va_K.moved hW.alike hK, hD.weaken (fun _ _ _ _ => trivial)⟩, hS.F ht⟩) hS.2.2 kd_S_changeState_144
    · by_cases d_3 : (σ.1 i).1 = 3
      · refine lv_tableIn (off := 58) (tgt := 72) hx hb kd_S_changeState_14 (by rw [d_3]; decide) (by rw [d_3]; decide) (by rw [d_3]; rfl) (by decide) ?_
        refine lv_aload_n hx hb kd_S_changeState_72 rfl (lv_at hl 2 rfl) ?_
        refine kx_Vi (G := gC n ad cN cB cL) (σ := σ) (κ := (3, i)) (ci := 1) (fs := nodeL ad i (σ.1 i)) (As := []) (rest := []) (n := 0) hx hb hml hown hts hT (ct_N_wants l D hn ad cN cB cL σ hi s.heap.size) kw_111 kw_112 kw_113 kw_4 kw_114 (by decide +kernel) ⟨rfl, rfl⟩ ⟨Nat.le_of_ble_eq_true rfl, Nat.le_of_ble_eq_true rfl⟩ hK hP hD hS (kC_3 hi) rfl rfl rfl hl.1 (Nat.le_of_ble_eq_true rfl) kd_S_changeState_73 rfl ⟨Nat.zero_le _, Nat.zero_le _⟩ (fun r_19 τ20 H locs hq21 hP hD hS => ?_)
        obtain ⟨⟨rfl, q_22⟩ | ⟨rfl, q_22⟩, rfl⟩ := hq21
        · refine lv_if_ne (tgt := 144) hx hb kd_S_changeState_76 (by decide) (fun _ => ?_) (fun c0 => absurd c0 (by decide))
          exact W.vret hx hb hr (fun t ht hW => ⟨⟨σ, rfl, by unfold chS; rw [if_neg d_1, if_neg d_2, if_pos d_3, if_pos q_22], by rw [ht]; exact hP, va_K.moved hW.alike hK, hD.weaken (fun _ _ _ _ => trivial)⟩, hS.F ht⟩) hS.2.2 kd_S_changeState_144
        · refine lv_if_ne (tgt := 144) hx hb kd_S_changeState_76 (by decide) (fun c0 => absurd rfl c0) (fun _ => ?_)
          refine lv_aload_n hx hb kd_S_changeState_79 rfl (lv_at hl 1 rfl) ?_
          refine lv_aload_n hx hb kd_S_changeState_80 rfl (lv_at hl 2 rfl) ?_
          refine lv_iconst (v := 2) hx hb kd_S_changeState_81 (by decide) ?_
          refine kx_Vv (G := gC n ad cN cB cL) (σ := σ) (κ := (0, 0)) (ci := 2) (fs := thisL ad σ) (As := [.ref (ad (3, i)), .int 2]) (rest := []) (n := 2) hx hb hml hown hts hT (ct_S_comeTo l D hn ad cN cB cL σ hi 2 H.size) kw_123 kw_125 ks_2 kw_1 kw_126 (by decide +kernel) ⟨rfl, rfl⟩ ⟨Nat.le_of_ble_eq_true rfl, Nat.le_of_ble_eq_true rfl⟩ hK hP hD hS kC_0 rfl rfl rfl hl.1 (Nat.le_of_ble_eq_true rfl) kd_S_changeState_82 rfl ⟨Nat.zero_le _, Nat.zero_le _⟩ (fun τ24 H locs hq25 hP hD hS => ?_)
          have hτ24 := hq25
          refine lv_goto (tgt := 144) hx hb kd_S_changeState_85 (by decide) ?_
          exact W.vret hx hb hr (fun t ht hW => ⟨⟨τ24, rfl, by subst hτ24; unfold chS; rw [if_neg d_1, if_neg d_2, if_pos d_3, if_neg q_22], by rw [ht]; exact hP, va_K.moved hW.alike hK, hD.weaken (fun _ _ _ _ => trivial)⟩, hS.F ht⟩) hS.2.2 kd_S_changeState_144
      · by_cases d_4 : (σ.1 i).1 = 4
        · refine lv_tableIn (off := 30) (tgt := 44) hx hb kd_S_changeState_14 (by rw [d_4]; decide) (by rw [d_4]; decide) (by rw [d_4]; rfl) (by decide) ?_
          refine lv_lload_n hx hb kd_S_changeState_44 rfl (lv_at hl 0 rfl) ?_
          refine lv_ldc2 (v := 20) hx hb hown (hw _ kw_156) kd_S_changeState_45 ?_
          refine W.lcmp hx hb kd_S_changeState_48 ?_
          refine lv_if_lt (tgt := 144) hx hb kd_S_changeState_49 (by decide) (fun c_26 => ?_) (fun c_26 => ?_)
          · have c_26 := (lg_cmp_lt _ _).mp c_26
            exact W.vret hx hb hr (fun t ht hW => ⟨⟨σ, rfl, by unfold chS; rw [if_neg d_1, if_neg d_2, if_neg d_3, if_pos d_4, if_pos c_26], by rw [ht]; exact hP, va_K.moved hW.alike hK, hD.weaken (fun _ _ _ _ => trivial)⟩, hS.F ht⟩) hS.2.2 kd_S_changeState_144
          · have c_26 := fun h => c_26 ((lg_cmp_lt _ _).mpr h)
            refine lv_aload_n hx hb kd_S_changeState_52 rfl (lv_at hl 1 rfl) ?_
            refine lv_aload_n hx hb kd_S_changeState_53 rfl (lv_at hl 2 rfl) ?_
            refine lv_aload_n hx hb kd_S_changeState_54 rfl (lv_at hl 2 rfl) ?_
            refine kx_Vi (G := gC n ad cN cB cL) (σ := σ) (κ := (3, i)) (ci := 1) (fs := nodeL ad i (σ.1 i)) (As := []) (rest := [.ref (ad (3, i)), .ref (ad (0, 0))]) (n := 0) hx hb hml hown hts hT (ct_N_wants l D hn ad cN cB cL σ hi s.heap.size) kw_111 kw_112 kw_113 kw_4 kw_114 (by decide +kernel) ⟨rfl, rfl⟩ ⟨Nat.le_of_ble_eq_true rfl, Nat.le_of_ble_eq_true rfl⟩ hK hP hD hS (kC_3 hi) rfl rfl rfl hl.1 (Nat.le_of_ble_eq_true rfl) kd_S_changeState_55 rfl ⟨Nat.zero_le _, Nat.zero_le _⟩ (fun r_27 τ28 H locs hq29 hP hD hS => ?_)
            obtain ⟨⟨rfl, q_30⟩ | ⟨rfl, q_30⟩, rfl⟩ := hq29
            · refine lv_if_eq (tgt := 65) hx hb kd_S_changeState_58 (by decide) (fun c0 => absurd c0 (by decide)) (fun _ => ?_)
              refine lv_iconst (v := 3) hx hb kd_S_changeState_61 (by decide) ?_
              refine lv_goto (tgt := 66) hx hb kd_S_changeState_62 (by decide) ?_
              refine kx_Vv (G := gC n ad cN cB cL) (σ := σ) (κ := (0, 0)) (ci := 2) (fs := thisL ad σ) (As := [.ref (ad (3, i)), .int 3]) (rest := []) (n := 2) hx hb hml hown hts hT (ct_S_comeTo l D hn ad cN cB cL σ hi 3 H.size) kw_123 kw_125 ks_2 kw_1 kw_126 (by decide +kernel) ⟨rfl, rfl⟩ ⟨Nat.le_of_ble_eq_true rfl, Nat.le_of_ble_eq_true rfl⟩ hK hP hD hS kC_0 rfl rfl rfl hl.1 (Nat.le_of_ble_eq_true rfl) kd_S_changeState_66 rfl ⟨Nat.zero_le _, Nat.zero_le _⟩ (fun τ32 H locs hq33 hP hD hS => ?_)
              have hτ32 := hq33
              refine lv_goto (tgt := 144) hx hb kd_S_changeState_69 (by decide) ?_
              exact W.vret hx hb hr (fun t ht hW => ⟨⟨τ32, rfl, by subst hτ32; unfold chS; rw [if_neg d_1, if_neg d_2, if_neg d_3, if_pos d_4, if_neg c_26, if_pos q_30], by rw [ht]; exact hP, va_K.moved hW.alike hK, hD.weaken (fun _ _ _ _ => trivial)⟩, hS.F ht⟩) hS.2.2 kd_S_changeState_144
            · refine lv_if_eq (tgt := 65) hx hb kd_S_changeState_58 (by decide) (fun _ => ?_) (fun c0 => absurd (by decide) c0)
              refine lv_iconst (v := 2) hx hb kd_S_changeState_65 (by decide) ?_
              refine kx_Vv (G := gC n ad cN cB cL) (σ := σ) (κ := (0, 0)) (ci := 2) (fs := thisL ad σ) (As := [.ref (ad (3, i)), .int 2]) (rest := []) (n := 2) hx hb hml hown hts hT (ct_S_comeTo l D hn ad cN cB cL σ hi 2 H.size) kw_123 kw_125 ks_2 kw_1 kw_126 (by decide +kernel) ⟨rfl, rfl⟩ ⟨Nat.le_of_ble_eq_true rfl, Nat.le_of_ble_eq_true rfl⟩ hK hP hD hS kC_0 rfl rfl rfl hl.1 (Nat.le_of_ble_eq_true rfl) kd_S_changeState_66 rfl ⟨Nat.zero_le _, Nat.zero_le _⟩ (fun τ35 H locs hq36 hP hD hS => ?_)
              have hτ35 := hq36
              refine lv_goto (tgt := 144) hx hb kd_S_changeState_69 (by decide) ?_
              exact W.vret hx hb hr (fun t ht hW => ⟨⟨τ35, rfl, by subst hτ35; unfold chS; rw [if_neg d_1, if_neg d_2, if_neg d_3, if_pos d_4, if_neg c_26, if_neg q_30], by rw [ht]; exact hP, va_K.moved hW.alike hK, hD.weaken (fun _ _ _ _ => trivial)⟩, hS.F ht⟩) hS.2.2 kd_S_changeState_144
        · refine lv_tableOut (tgt := 144) hx hb kd_S_changeState_14 (sw_out d_1 d_2 d_3 d_4) (by decide) ?_
          exact W.vret hx hb hr (fun t ht hW => ⟨⟨σ, rfl, by unfold chS; rw [if_neg d_1, if_neg d_2, if_neg d_3, if_neg d_4], by rw [ht]; exact hP, va_K.moved hW.alike hK, hD.weaken (fun _ _ _ _ => trivial)⟩, hS.F ht⟩) hS.2.2 kd_S_changeState_144
set_option maxHeartbeats 4000000 in
set_option maxRecDepth 100000 in
theorem ct_S_changeStates (l : Launch) (D : va_G) {n : Nat} (hn : 1 ≤ n ∧ n ≤ 64) (ad : Nat × Nat → Nat) (cN cB cL : ClassId) (σ : CS)  (sz : Nat) : Met l ky_S_changeStates (km ky_S_changeStates kc_S_changeStates 5 none) ({ frames := 3, cells := 0, slots := 0, locals := 65 }) (cPre D n ad cN cB cL σ [.ref (ad (0, 0))] sz) (cQv D n ad cN cB cL sz (fun τ => chA n σ n = τ)) 0 0 (kA (kC n) ad sz) := by
  refine Met.ofW (cc := kc_S_changeStates) (maxL := 5) (ret := none) (by decide) rfl ?_
  intro p e s m args below meth c s₁ B hml hv
  obtain ⟨rfl, hsz, hP, hK, hD0⟩ := hv
  have hx := B.exec
  have hb := B.bytes
  have hr := B.returns
  have hts := atoms_spec (ws := km ky_S_changeStates kc_S_changeStates 5 none) B.pre
  have hT : ∀ w ∈ kB_l, w ∈ km ky_S_changeStates kc_S_changeStates 5 none := fun w h => List.mem_cons_of_mem _ h
  have hw := fun w h => hts w (hT w h)
  have hown : s.vm.findClass kR_S = some m.cls := findClass_of_methodNamed B.named
  have hlocks := B.notSynchronized
  subst hsz
  have hD : va_D (kA (kC n) ad s.heap.size) (kW (kC n) ad (gC n ad cN cB cL σ)) := kD_any _ hD0
  have hS : va_S (kA (kC n) ad s.heap.size) s.heap s.heap [] := va_S.rf
  have hl := lv_entry ([.ref (ad (0, 0))]) (n := 5) (Nat.le_of_ble_eq_true rfl)
  rw [lg_entry_eq]
  generalize (lg_sl ([.ref (ad (0, 0))]) ++ List.replicate (5 - (lg_sl ([.ref (ad (0, 0))])).length) Slot.unset).toArray = ls at hl ⊢
  have hl : lv_has ls 5 [(0, .ref (ad (0, 0)))] := hl
  refine lv_aload_n hx hb kd_S_changeStates_0 rfl (lv_at hl 0 rfl) ?_
  refine kx_get (ci := 2) (fs := thisL ad σ) (v := .ref (ad (1, 0))) hx hb hw ki_S hown hK hP kC_0 rfl rfl 0 (by decide) kw_90 rfl rfl kd_S_changeStates_1 ?_
  refine lv_astore_n (lv' := [(1, .ref (ad (1, 0))), (0, .ref (ad (0, 0)))]) hx hb kd_S_changeStates_4 rfl hl (by decide) rfl (fun ls hl => ?_)
  refine lv_aload_n hx hb kd_S_changeStates_5 rfl (lv_at hl 0 rfl) ?_
  refine kx_alen (n := n) hx hb hK hP kC_1 0 rfl rfl kd_S_changeStates_6 ?_
  refine lv_istore_n (lv' := [(2, .int (nI n)), (1, .ref (ad (1, 0))), (0, .ref (ad (0, 0)))]) hx hb kd_S_changeStates_7 rfl hl (by decide) rfl (fun ls hl => ?_)
  refine lv_iconst (v := 0) hx hb kd_S_changeStates_8 (by decide) ?_
  refine lv_istore_n (lv' := [(3, .int 0), (2, .int (nI n)), (1, .ref (ad (1, 0))), (0, .ref (ad (0, 0)))]) hx hb kd_S_changeStates_9 rfl hl (by decide) rfl (fun ls hl => ?_)
  have loop : ∀ (q j : Nat) (ρj : CS)  (H : Heap) (locs : List Loc) (ls : Array Slot), j ≤ n → n < j + q → (ρj = chA n σ j) → va_P D kCl (kW (kC n) ad (gC n ad cN cB cL ρj)) H → va_D (kA (kC n) ad s.heap.size) (kW (kC n) ad (gC n ad cN cB cL ρj)) → va_S (kA (kC n) ad s.heap.size) s.heap H locs → lv_has ls 5 [(0, .ref (ad (0, 0))), (1, .ref (ad (1, 0))), (2, .int (nI n)), (3, .int (nI j))] → W p l e (headSpec (km ky_S_changeStates kc_S_changeStates 5 none) ({ frames := 3, cells := 0, slots := 0, locals := 65 })).room s m [.ref (ad (0, 0))].toArray below meth c H locs 0 0 (MQ below (cQv D n ad cN cB cL s.heap.size (fun τ => chA n σ n = τ)) [.ref (ad (0, 0))].toArray s 0 0 (kA (kC n) ad s.heap.size)) (F0 m 10 ls []) := by
    intro q
    induction q with
    | zero => intro j ρj  H locs ls hj_j hq_j; exact absurd hq_j (by omega)
    | succ q ih_j =>
      intro j ρj  H locs ls hj_j hq_j hI_j hP hD hS hl
      refine lv_iload_n hx hb kd_S_changeStates_10 rfl (lv_at hl 3 rfl) ?_
      refine lv_iload_n hx hb kd_S_changeStates_11 rfl (lv_at hl 2 rfl) ?_
      refine lv_icmp_ge (tgt := 32) hx hb kd_S_changeStates_12 (by decide) (fun c_1 => ?_) (fun c_1 => ?_)
      · have hje_j : j = n := lp_end (by omega) hj_j c_1
        exact W.vret hx hb hr (fun t ht hW => ⟨⟨ρj, rfl, by rw [hI_j, hje_j], by rw [ht]; exact hP, va_K.moved hW.alike hK, hD.weaken (fun _ _ _ _ => trivial)⟩, hS.F ht⟩) hS.2.2 kd_S_changeStates_32
      · have hlt_j : j < n := lp_go (by omega) hj_j c_1
        refine lv_aload_n hx hb kd_S_changeStates_15 rfl (lv_at hl 1 rfl) ?_
        refine lv_iload_n hx hb kd_S_changeStates_16 rfl (lv_at hl 3 rfl) ?_
        refine kx_aald (i := j) hx hb hK hP kC_1 0 rfl rfl rfl hlt_j (by omega) rfl kd_S_changeStates_17 ?_
        refine lv_astore (lv' := [(4, .ref (ad (3, j))), (0, .ref (ad (0, 0))), (1, .ref (ad (1, 0))), (2, .int (nI n)), (3, .int (nI j))]) hx hb kd_S_changeStates_18 hl (by decide) rfl (fun ls hl => ?_)
        refine lv_aload_n hx hb kd_S_changeStates_20 rfl (lv_at hl 1 rfl) ?_
        refine lv_aload hx hb kd_S_changeStates_21 (lv_at hl 0 rfl) ?_
        refine kx_Vv (G := gC n ad cN cB cL) (σ := ρj) (κ := (0, 0)) (ci := 2) (fs := thisL ad ρj) (As := [.ref (ad (3, j))]) (rest := []) (n := 1) hx hb hml hown hts hT (ct_S_changeState l D hn ad cN cB cL ρj hlt_j H.size) kw_152 kw_154 ks_6 kw_1 kw_155 (by decide +kernel) ⟨rfl, rfl⟩ ⟨Nat.le_of_ble_eq_true rfl, Nat.le_of_ble_eq_true rfl⟩ hK hP hD hS kC_0 rfl rfl rfl hl.1 (Nat.le_of_ble_eq_true rfl) kd_S_changeStates_23 rfl ⟨Nat.zero_le _, Nat.zero_le _⟩ (fun τ3 H locs hq4 hP hD hS => ?_)
        have hτ3 := hq4
        refine lv_iinc (v := nI (j + 1)) (lv' := [(3, .int (nI (j + 1))), (4, .ref (ad (3, j))), (0, .ref (ad (0, 0))), (1, .ref (ad (1, 0))), (2, .int (nI n))]) hx hb kd_S_changeStates_26 hl (k := 4) rfl (nI_1 j) (by decide) rfl (fun ls hl => ?_)
        refine lv_goto (tgt := 10) hx hb kd_S_changeStates_29 (by decide) ?_
        exact ih_j (j + 1) τ3  _ _ _ hlt_j (by omega) (by rw [← hτ3, hI_j]; rfl) hP hD hS (lv_sub hl [2, 3, 4, 0] rfl)
  exact loop (n + 1) 0 σ  _ _ _ (Nat.zero_le _) (by omega) rfl hP hD hS (lv_sub hl [3, 2, 1, 0] rfl)
/-- a node in the second half of a tick -/
def sdS (n : Nat) (σ : CS) (i : Nat) : CS :=
  if awk (σ.1 i).1 then (if ¬ (σ.1 i).2.2.2.2.2.1 = 0 then σ else if σ.2.2.1 < (σ.1 i).2.2.2.1 then σ else (let s1 : CS := rwS n σ i; setN s1 i ((s1.1 i).1, (s1.1 i).2.1, (s1.1 i).2.2.1, s1.2.2.1 + 3, (s1.1 i).2.2.2.2.1, (s1.1 i).2.2.2.2.2.1, (s1.1 i).2.2.2.2.2.2.1, (s1.1 i).2.2.2.2.2.2.2))) else σ
def sdA (n : Nat) (σ : CS) : Nat → CS
  | 0 => σ
  | k + 1 => sdS n (sdA n σ k) k
abbrev slp (n : Nat) (σ : CS) : Prop := ∀ i, i < n → (σ.1 i).1 = 0
set_option maxHeartbeats 4000000 in
set_option maxRecDepth 100000 in
theorem ct_S_sendRows (l : Launch) (D : va_G) {n : Nat} (hn : 1 ≤ n ∧ n ≤ 64) (ad : Nat × Nat → Nat) (cN cB cL : ClassId) (σ : CS)  (sz : Nat) : Met l ky_S_sendRows (km ky_S_sendRows kc_S_sendRows 5 none) ({ frames := 5, cells := 0, slots := 0, locals := 110 }) (cPre D n ad cN cB cL σ [.ref (ad (0, 0))] sz) (cQv D n ad cN cB cL sz (fun τ => sdA n σ n = τ)) 0 0 (kA (kC n) ad sz) := by
  refine Met.ofW (cc := kc_S_sendRows) (maxL := 5) (ret := none) (by decide) rfl ?_
  intro p e s m args below meth c s₁ B hml hv
  obtain ⟨rfl, hsz, hP, hK, hD0⟩ := hv
  have hx := B.exec
  have hb := B.bytes
  have hr := B.returns
  have hts := atoms_spec (ws := km ky_S_sendRows kc_S_sendRows 5 none) B.pre
  have hT : ∀ w ∈ kB_l, w ∈ km ky_S_sendRows kc_S_sendRows 5 none := fun w h => List.mem_cons_of_mem _ h
  have hw := fun w h => hts w (hT w h)
  have hown : s.vm.findClass kR_S = some m.cls := findClass_of_methodNamed B.named
  have hlocks := B.notSynchronized
  subst hsz
  have hD : va_D (kA (kC n) ad s.heap.size) (kW (kC n) ad (gC n ad cN cB cL σ)) := kD_any _ hD0
  have hS : va_S (kA (kC n) ad s.heap.size) s.heap s.heap [] := va_S.rf
  have hl := lv_entry ([.ref (ad (0, 0))]) (n := 5) (Nat.le_of_ble_eq_true rfl)
  rw [lg_entry_eq]
  generalize (lg_sl ([.ref (ad (0, 0))]) ++ List.replicate (5 - (lg_sl ([.ref (ad (0, 0))])).length) Slot.unset).toArray = ls at hl ⊢
  have hl : lv_has ls 5 [(0, .ref (ad (0, 0)))] := hl
  refine lv_aload_n hx hb kd_S_sendRows_0 rfl (lv_at hl 0 rfl) ?_
  refine kx_get (ci := 2) (fs := thisL ad σ) (v := .ref (ad (1, 0))) hx hb hw ki_S hown hK hP kC_0 rfl rfl 0 (by decide) kw_90 rfl rfl kd_S_sendRows_1 ?_
  refine lv_astore_n (lv' := [(1, .ref (ad (1, 0))), (0, .ref (ad (0, 0)))]) hx hb kd_S_sendRows_4 rfl hl (by decide) rfl (fun ls hl => ?_)
  refine lv_aload_n hx hb kd_S_sendRows_5 rfl (lv_at hl 0 rfl) ?_
  refine kx_alen (n := n) hx hb hK hP kC_1 0 rfl rfl kd_S_sendRows_6 ?_
  refine lv_istore_n (lv' := [(2, .int (nI n)), (1, .ref (ad (1, 0))), (0, .ref (ad (0, 0)))]) hx hb kd_S_sendRows_7 rfl hl (by decide) rfl (fun ls hl => ?_)
  refine lv_iconst (v := 0) hx hb kd_S_sendRows_8 (by decide) ?_
  refine lv_istore_n (lv' := [(3, .int 0), (2, .int (nI n)), (1, .ref (ad (1, 0))), (0, .ref (ad (0, 0)))]) hx hb kd_S_sendRows_9 rfl hl (by decide) rfl (fun ls hl => ?_)
  have loop : ∀ (q j : Nat) (ρj : CS)  (H : Heap) (locs : List Loc) (ls : Array Slot), j ≤ n → n < j + q → (ρj = sdA n σ j) → va_P D kCl (kW (kC n) ad (gC n ad cN cB cL ρj)) H → va_D (kA (kC n) ad s.heap.size) (kW (kC n) ad (gC n ad cN cB cL ρj)) → va_S (kA (kC n) ad s.heap.size) s.heap H locs → lv_has ls 5 [(0, .ref (ad (0, 0))), (1, .ref (ad (1, 0))), (2, .int (nI n)), (3, .int (nI j))] → W p l e (headSpec (km ky_S_sendRows kc_S_sendRows 5 none) ({ frames := 5, cells := 0, slots := 0, locals := 110 })).room s m [.ref (ad (0, 0))].toArray below meth c H locs 0 0 (MQ below (cQv D n ad cN cB cL s.heap.size (fun τ => sdA n σ n = τ)) [.ref (ad (0, 0))].toArray s 0 0 (kA (kC n) ad s.heap.size)) (F0 m 10 ls []) := by
    intro q
    induction q with
    | zero => intro j ρj  H locs ls hj_j hq_j; exact absurd hq_j (by omega)
    | succ q ih_j =>
      intro j ρj  H locs ls hj_j hq_j hI_j hP hD hS hl
      refine lv_iload_n hx hb kd_S_sendRows_10 rfl (lv_at hl 3 rfl) ?_
      refine lv_iload_n hx hb kd_S_sendRows_11 rfl (lv_at hl 2 rfl) ?_
      refine lv_icmp_ge (tgt := 75) hx hb kd_S_sendRows_12 (by decide) (fun c_1 => ?_) (fun c_1 => ?_)
      · have hje_j : j = n := lp_end (by omega) hj_j c_1
        exact W.vret hx hb hr (fun t ht hW => ⟨⟨ρj, rfl, by rw [hI_j, hje_j], by rw [ht]; exact hP, va_K.moved hW.alike hK, hD.weaken (fun _ _ _ _ => trivial)⟩, hS.F ht⟩) hS.2.2 kd_S_sendRows_75
      · have hlt_j : j < n := lp_go (by omega) hj_j c_1
        refine lv_aload_n hx hb kd_S_sendRows_15 rfl (lv_at hl 1 rfl) ?_
        refine lv_iload_n hx hb kd_S_sendRows_16 rfl (lv_at hl 3 rfl) ?_
        refine kx_aald (i := j) hx hb hK hP kC_1 0 rfl rfl rfl hlt_j (by omega) rfl kd_S_sendRows_17 ?_
        refine lv_astore (lv' := [(4, .ref (ad (3, j))), (0, .ref (ad (0, 0))), (1, .ref (ad (1, 0))), (2, .int (nI n)), (3, .int (nI j))]) hx hb kd_S_sendRows_18 hl (by decide) rfl (fun ls hl => ?_)
        refine lv_aload hx hb kd_S_sendRows_20 (lv_at hl 0 rfl) ?_
        refine kx_Vi (G := gC n ad cN cB cL) (σ := ρj) (κ := (3, j)) (ci := 1) (fs := nodeL ad j (ρj.1 j)) (As := []) (rest := []) (n := 0) hx hb hml hown hts hT (ct_N_keepsAwake l D hn ad cN cB cL ρj hlt_j H.size) kw_127 kw_128 kw_129 kw_4 kw_130 (by decide +kernel) ⟨rfl, rfl⟩ ⟨Nat.le_of_ble_eq_true rfl, Nat.le_of_ble_eq_true rfl⟩ hK hP hD hS (kC_3 hlt_j) rfl rfl rfl hl.1 (Nat.le_of_ble_eq_true rfl) kd_S_sendRows_22 rfl ⟨Nat.zero_le _, Nat.zero_le _⟩ (fun r_2 τ3 H locs hq4 hP hD hS => ?_)
        obtain ⟨⟨rfl, q_5⟩ | ⟨rfl, q_5⟩, rfl⟩ := hq4
        · refine lv_if_eq (tgt := 69) hx hb kd_S_sendRows_25 (by decide) (fun c0 => absurd c0 (by decide)) (fun _ => ?_)
          refine lv_aload hx hb kd_S_sendRows_28 (lv_at hl 0 rfl) ?_
          refine kx_get (ci := 1) (fs := nodeL ad j (ρj.1 j)) (v := .int ((ρj.1 j).2.2.2.2.2.1)) hx hb hw ki_N hown hK hP (kC_3 hlt_j) rfl rfl 7 (by decide) kw_66 rfl rfl kd_S_sendRows_30 ?_
          refine lv_if_ne (tgt := 69) hx hb kd_S_sendRows_33 (by decide) (fun c_6 => ?_) (fun c_6 => ?_)
          · refine lv_iinc (v := nI (j + 1)) (lv' := [(3, .int (nI (j + 1))), (4, .ref (ad (3, j))), (0, .ref (ad (0, 0))), (1, .ref (ad (1, 0))), (2, .int (nI n))]) hx hb kd_S_sendRows_69 hl (k := 4) rfl (nI_1 j) (by decide) rfl (fun ls hl => ?_)
            refine lv_goto (tgt := 10) hx hb kd_S_sendRows_72 (by decide) ?_
            exact ih_j (j + 1) ρj  _ _ _ hlt_j (by omega) (by subst hI_j; show _ = sdS n (sdA n σ j) j; unfold sdS; rw [if_pos q_5, if_pos c_6]) hP hD hS (lv_sub hl [2, 3, 4, 0] rfl)
          · refine lv_aload_n hx hb kd_S_sendRows_36 rfl (lv_at hl 1 rfl) ?_
            refine kx_get (ci := 2) (fs := thisL ad ρj) (v := .long ρj.2.2.1) hx hb hw ki_S hown hK hP kC_0 rfl rfl 2 (by decide) kw_92 rfl rfl kd_S_sendRows_37 ?_
            refine lv_aload hx hb kd_S_sendRows_40 (lv_at hl 0 rfl) ?_
            refine kx_get (ci := 1) (fs := nodeL ad j (ρj.1 j)) (v := .long ((ρj.1 j).2.2.2.1)) hx hb hw ki_N hown hK hP (kC_3 hlt_j) rfl rfl 5 (by decide) kw_62 rfl rfl kd_S_sendRows_42 ?_
            refine W.lcmp hx hb kd_S_sendRows_45 ?_
            refine lv_if_lt (tgt := 69) hx hb kd_S_sendRows_46 (by decide) (fun c_7 => ?_) (fun c_7 => ?_)
            · have c_7 := (lg_cmp_lt _ _).mp c_7
              refine lv_iinc (v := nI (j + 1)) (lv' := [(3, .int (nI (j + 1))), (4, .ref (ad (3, j))), (0, .ref (ad (0, 0))), (1, .ref (ad (1, 0))), (2, .int (nI n))]) hx hb kd_S_sendRows_69 hl (k := 4) rfl (nI_1 j) (by decide) rfl (fun ls hl => ?_)
              refine lv_goto (tgt := 10) hx hb kd_S_sendRows_72 (by decide) ?_
              exact ih_j (j + 1) ρj  _ _ _ hlt_j (by omega) (by subst hI_j; show _ = sdS n (sdA n σ j) j; unfold sdS; rw [if_pos q_5, if_neg (fun h => h c_6), if_pos c_7]) hP hD hS (lv_sub hl [2, 3, 4, 0] rfl)
            · have c_7 := fun h => c_7 ((lg_cmp_lt _ _).mpr h)
              refine lv_aload_n hx hb kd_S_sendRows_49 rfl (lv_at hl 1 rfl) ?_
              refine lv_aload hx hb kd_S_sendRows_50 (lv_at hl 0 rfl) ?_
              refine kx_Vi (G := gC n ad cN cB cL) (σ := ρj) (κ := (0, 0)) (ci := 2) (fs := thisL ad ρj) (As := [.ref (ad (3, j))]) (rest := []) (n := 1) hx hb hml hown hts hT (ct_S_sendRow l D hn ad cN cB cL ρj hlt_j H.size) kw_167 kw_169 ks_9 kw_1 kw_170 (by decide +kernel) ⟨rfl, rfl⟩ ⟨Nat.le_of_ble_eq_true rfl, Nat.le_of_ble_eq_true rfl⟩ hK hP hD hS kC_0 rfl rfl rfl hl.1 (Nat.le_of_ble_eq_true rfl) kd_S_sendRows_52 rfl ⟨Nat.zero_le _, Nat.zero_le _⟩ (fun r_8 τ9 H locs hq10 hP hD hS => ?_)
              obtain ⟨hr_8, hτ9⟩ := hq10
              refine lv_pop hx hb kd_S_sendRows_55 rfl ?_
              refine lv_aload hx hb kd_S_sendRows_56 (lv_at hl 0 rfl) ?_
              refine lv_aload_n hx hb kd_S_sendRows_58 rfl (lv_at hl 1 rfl) ?_
              refine kx_get (ci := 2) (fs := thisL ad τ9) (v := .long τ9.2.2.1) hx hb hw ki_S hown hK hP kC_0 rfl rfl 2 (by decide) kw_92 rfl rfl kd_S_sendRows_59 ?_
              refine lv_ldc2 (v := 3) hx hb hown (hw _ kw_179) kd_S_sendRows_62 ?_
              refine lv_ladd hx hb kd_S_sendRows_65 ?_
              refine kx_put (ci := 1) (fs := nodeL ad j (τ9.1 j)) (v := .long (τ9.2.2.1 + 3)) (g2 := gC n ad cN cB cL (setN τ9 j ((τ9.1 j).1, (τ9.1 j).2.1, (τ9.1 j).2.2.1, τ9.2.2.1 + 3, (τ9.1 j).2.2.2.2.1, (τ9.1 j).2.2.2.2.2.1, (τ9.1 j).2.2.2.2.2.2.1, (τ9.1 j).2.2.2.2.2.2.2))) hx hb hw ki_N kt_N ko_N kn_N hown hK hP hD hS (kC_3 hlt_j) rfl rfl 5 (by decide) kw_62 rfl rfl rfl rfl (Nat.le_of_ble_eq_true rfl) (gC_N rfl) kd_S_sendRows_66 (fun H locs hP hD hS => ?_)
              generalize hτ11 : setN τ9 j ((τ9.1 j).1, (τ9.1 j).2.1, (τ9.1 j).2.2.1, τ9.2.2.1 + 3, (τ9.1 j).2.2.2.2.1, (τ9.1 j).2.2.2.2.2.1, (τ9.1 j).2.2.2.2.2.2.1, (τ9.1 j).2.2.2.2.2.2.2) = τ11 at hP hD
              refine lv_iinc (v := nI (j + 1)) (lv' := [(3, .int (nI (j + 1))), (4, .ref (ad (3, j))), (0, .ref (ad (0, 0))), (1, .ref (ad (1, 0))), (2, .int (nI n))]) hx hb kd_S_sendRows_69 hl (k := 4) rfl (nI_1 j) (by decide) rfl (fun ls hl => ?_)
              refine lv_goto (tgt := 10) hx hb kd_S_sendRows_72 (by decide) ?_
              exact ih_j (j + 1) τ11  _ _ _ hlt_j (by omega) (by subst hτ9; subst hτ11; subst hI_j; show _ = sdS n (sdA n σ j) j; unfold sdS; rw [if_pos q_5, if_neg (fun h => h c_6), if_neg c_7]) hP hD hS (lv_sub hl [2, 3, 4, 0] rfl)
        · refine lv_if_eq (tgt := 69) hx hb kd_S_sendRows_25 (by decide) (fun _ => ?_) (fun c0 => absurd (by decide) c0)
          refine lv_iinc (v := nI (j + 1)) (lv' := [(3, .int (nI (j + 1))), (4, .ref (ad (3, j))), (0, .ref (ad (0, 0))), (1, .ref (ad (1, 0))), (2, .int (nI n))]) hx hb kd_S_sendRows_69 hl (k := 4) rfl (nI_1 j) (by decide) rfl (fun ls hl => ?_)
          refine lv_goto (tgt := 10) hx hb kd_S_sendRows_72 (by decide) ?_
          exact ih_j (j + 1) ρj  _ _ _ hlt_j (by omega) (by subst hI_j; show _ = sdS n (sdA n σ j) j; unfold sdS; rw [if_neg q_5]) hP hD hS (lv_sub hl [2, 3, 4, 0] rfl)
  exact loop (n + 1) 0 σ  _ _ _ (Nat.zero_le _) (by omega) rfl hP hD hS (lv_sub hl [3, 2, 1, 0] rfl)
set_option maxHeartbeats 4000000 in
set_option maxRecDepth 100000 in
theorem ct_S_sleeps (l : Launch) (D : va_G) {n : Nat} (hn : 1 ≤ n ∧ n ≤ 64) (ad : Nat × Nat → Nat) (cN cB cL : ClassId) (σ : CS)  (sz : Nat) : Met l ky_S_sleeps (km ky_S_sleeps kc_S_sleeps 5 (some .boolean)) ({ frames := 0, cells := 0, slots := 0, locals := 0 }) (cPre D n ad cN cB cL σ [.ref (ad (0, 0))] sz) (cQi D n ad cN cB cL sz (fun r τ => ((r = 1 ∧ slp n σ) ∨ (r = 0 ∧ ¬ slp n σ)) ∧ σ = τ)) 0 0 (kA (kC n) ad sz) := by
  refine Met.ofW (cc := kc_S_sleeps) (maxL := 5) (ret := (some .boolean)) (by decide) rfl ?_
  intro p e s m args below meth c s₁ B hml hv
  obtain ⟨rfl, hsz, hP, hK, hD0⟩ := hv
  have hx := B.exec
  have hb := B.bytes
  have hr := B.returns
  have hts := atoms_spec (ws := km ky_S_sleeps kc_S_sleeps 5 (some .boolean)) B.pre
  have hT : ∀ w ∈ kB_l, w ∈ km ky_S_sleeps kc_S_sleeps 5 (some .boolean) := fun w h => List.mem_cons_of_mem _ h
  have hw := fun w h => hts w (hT w h)
  have hown : s.vm.findClass kR_S = some m.cls := findClass_of_methodNamed B.named
  have hlocks := B.notSynchronized
  subst hsz
  have hD : va_D (kA (kC n) ad s.heap.size) (kW (kC n) ad (gC n ad cN cB cL σ)) := kD_any _ hD0
  have hS : va_S (kA (kC n) ad s.heap.size) s.heap s.heap [] := va_S.rf
  have hl := lv_entry ([.ref (ad (0, 0))]) (n := 5) (Nat.le_of_ble_eq_true rfl)
  rw [lg_entry_eq]
  generalize (lg_sl ([.ref (ad (0, 0))]) ++ List.replicate (5 - (lg_sl ([.ref (ad (0, 0))])).length) Slot.unset).toArray = ls at hl ⊢
  have hl : lv_has ls 5 [(0, .ref (ad (0, 0)))] := hl
  refine lv_aload_n hx hb kd_S_sleeps_0 rfl (lv_at hl 0 rfl) ?_
  refine kx_get (ci := 2) (fs := thisL ad σ) (v := .ref (ad (1, 0))) hx hb hw ki_S hown hK hP kC_0 rfl rfl 0 (by decide) kw_90 rfl rfl kd_S_sleeps_1 ?_
  refine lv_astore_n (lv' := [(1, .ref (ad (1, 0))), (0, .ref (ad (0, 0)))]) hx hb kd_S_sleeps_4 rfl hl (by decide) rfl (fun ls hl => ?_)
  refine lv_aload_n hx hb kd_S_sleeps_5 rfl (lv_at hl 0 rfl) ?_
  refine kx_alen (n := n) hx hb hK hP kC_1 0 rfl rfl kd_S_sleeps_6 ?_
  refine lv_istore_n (lv' := [(2, .int (nI n)), (1, .ref (ad (1, 0))), (0, .ref (ad (0, 0)))]) hx hb kd_S_sleeps_7 rfl hl (by decide) rfl (fun ls hl => ?_)
  refine lv_iconst (v := 0) hx hb kd_S_sleeps_8 (by decide) ?_
  refine lv_istore_n (lv' := [(3, .int 0), (2, .int (nI n)), (1, .ref (ad (1, 0))), (0, .ref (ad (0, 0)))]) hx hb kd_S_sleeps_9 rfl hl (by decide) rfl (fun ls hl => ?_)
  have loop : ∀ (q j : Nat) (ρj : CS)  (H : Heap) (locs : List Loc) (ls : Array Slot), j ≤ n → n < j + q → (σ = ρj ∧ ∀ i, i < j → (σ.1 i).1 = 0) → va_P D kCl (kW (kC n) ad (gC n ad cN cB cL ρj)) H → va_D (kA (kC n) ad s.heap.size) (kW (kC n) ad (gC n ad cN cB cL ρj)) → va_S (kA (kC n) ad s.heap.size) s.heap H locs → lv_has ls 5 [(0, .ref (ad (0, 0))), (1, .ref (ad (1, 0))), (2, .int (nI n)), (3, .int (nI j))] → W p l e (headSpec (km ky_S_sleeps kc_S_sleeps 5 (some .boolean)) ({ frames := 0, cells := 0, slots := 0, locals := 0 })).room s m [.ref (ad (0, 0))].toArray below meth c H locs 0 0 (MQ below (cQi D n ad cN cB cL s.heap.size (fun r τ => ((r = 1 ∧ slp n σ) ∨ (r = 0 ∧ ¬ slp n σ)) ∧ σ = τ)) [.ref (ad (0, 0))].toArray s 0 0 (kA (kC n) ad s.heap.size)) (F0 m 10 ls []) := by
    intro q
    induction q with
    | zero => intro j ρj  H locs ls hj_j hq_j; exact absurd hq_j (by omega)
    | succ q ih_j =>
      intro j ρj  H locs ls hj_j hq_j hI_j hP hD hS hl
      obtain ⟨rfl, hI_j⟩ := hI_j
      refine lv_iload_n hx hb kd_S_sleeps_10 rfl (lv_at hl 3 rfl) ?_
      refine lv_iload_n hx hb kd_S_sleeps_11 rfl (lv_at hl 2 rfl) ?_
      refine lv_icmp_ge (tgt := 36) hx hb kd_S_sleeps_12 (by decide) (fun c_1 => ?_) (fun c_1 => ?_)
      · have hje_j : j = n := lp_end (by omega) hj_j c_1
        refine lv_iconst (v := 1) hx hb kd_S_sleeps_36 (by decide) ?_
        exact W.zret (v := 1) hx hb hr rfl (fun t ht hW => ⟨⟨1, σ, rfl, ⟨Or.inl ⟨rfl, fun i hi1 => hI_j i (by omega)⟩, rfl⟩, by rw [ht]; exact hP, va_K.moved hW.alike hK, hD.weaken (fun _ _ _ _ => trivial)⟩, hS.F ht⟩) hS.2.2 kd_S_sleeps_37
      · have hlt_j : j < n := lp_go (by omega) hj_j c_1
        refine lv_aload_n hx hb kd_S_sleeps_15 rfl (lv_at hl 1 rfl) ?_
        refine lv_iload_n hx hb kd_S_sleeps_16 rfl (lv_at hl 3 rfl) ?_
        refine kx_aald (i := j) hx hb hK hP kC_1 0 rfl rfl rfl hlt_j (by omega) rfl kd_S_sleeps_17 ?_
        refine lv_astore (lv' := [(4, .ref (ad (3, j))), (0, .ref (ad (0, 0))), (1, .ref (ad (1, 0))), (2, .int (nI n)), (3, .int (nI j))]) hx hb kd_S_sleeps_18 hl (by decide) rfl (fun ls hl => ?_)
        refine lv_aload hx hb kd_S_sleeps_20 (lv_at hl 0 rfl) ?_
        refine kx_get (ci := 1) (fs := nodeL ad j (σ.1 j)) (v := .int ((σ.1 j).1)) hx hb hw ki_N hown hK hP (kC_3 hlt_j) rfl rfl 2 (by decide) kw_58 rfl rfl kd_S_sleeps_22 ?_
        refine lv_if_eq (tgt := 30) hx hb kd_S_sleeps_25 (by decide) (fun c_2 => ?_) (fun c_2 => ?_)
        · refine lv_iinc (v := nI (j + 1)) (lv' := [(3, .int (nI (j + 1))), (4, .ref (ad (3, j))), (0, .ref (ad (0, 0))), (1, .ref (ad (1, 0))), (2, .int (nI n))]) hx hb kd_S_sleeps_30 hl (k := 4) rfl (nI_1 j) (by decide) rfl (fun ls hl => ?_)
          refine lv_goto (tgt := 10) hx hb kd_S_sleeps_33 (by decide) ?_
          exact ih_j (j + 1) σ  _ _ _ hlt_j (by omega) ⟨rfl, lt_s hI_j c_2⟩ hP hD hS (lv_sub hl [2, 3, 4, 0] rfl)
        · refine lv_iconst (v := 0) hx hb kd_S_sleeps_28 (by decide) ?_
          exact W.zret (v := 0) hx hb hr rfl (fun t ht hW => ⟨⟨0, σ, rfl, ⟨Or.inr ⟨rfl, fun h => c_2 (h j hlt_j)⟩, rfl⟩, by rw [ht]; exact hP, va_K.moved hW.alike hK, hD.weaken (fun _ _ _ _ => trivial)⟩, hS.F ht⟩) hS.2.2 kd_S_sleeps_29
  exact loop (n + 1) 0 σ  _ _ _ (Nat.zero_le _) (by omega) ⟨rfl, lt_0⟩ hP hD hS (lv_sub hl [3, 2, 1, 0] rfl)
