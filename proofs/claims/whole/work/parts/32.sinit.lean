/-- how many nodes there are -/
def cntN (x : Int32) : Nat := if x < 1 then 8 else if x > 64 then 8 else x.toNatClampNeg
theorem cnt_c {x : Int32} (h1 : ¬ x < 1) (h2 : ¬ x > 64) : nI (cntN x) = x ∧ 1 ≤ cntN x ∧ cntN x ≤ 64 := by
  obtain ⟨i, hi, rfl⟩ := isn_y (n := 64) (by decide) h1 h2
  have : cntN (nI (i + 1)) = i + 1 := by
    unfold cntN
    rw [if_neg h1, if_neg h2]
    exact nI_clamp (by omega)
  rw [this]
  exact ⟨rfl, by omega, by omega⟩
theorem cnt_a {x : Int32} (h1 : x < 1) : cntN x = 8 := by unfold cntN; rw [if_pos h1]
theorem cnt_b {x : Int32} (h1 : ¬ x < 1) (h2 : x > 64) : cntN x = 8 := by unfold cntN; rw [if_neg h1, if_pos h2]
theorem cnt_ok (x : Int32) : 1 ≤ cntN x ∧ cntN x ≤ 64 := by
  by_cases h1 : x < 1
  · rw [cnt_a h1]; decide
  · by_cases h2 : x > 64
    · rw [cnt_b h1 h2]; decide
    · exact (cnt_c h1 h2).2
theorem nb_e {n : Nat} (h : n ≤ 64) : (nI n + 8 - 1) / 8 = nI (nbs n) := by
  rw [show (8 : Int32) = nI 8 from rfl, nI_add, show n + 8 = (n + 7) + 1 from rfl, nI_pred, pk_div (by omega) (by decide) (by decide)]
  rfl
theorem f8_e (b : Nat) : nI b * 8 = nI (8 * b) := by rw [show (8 : Int32) = nI 8 from rfl, pk_mul, Nat.mul_comm]
theorem mn_e {n b : Nat} (h : n ≤ 64) (hb : 8 * b ≤ n) : (if nI n - nI (8 * b) < 8 then nI n - nI (8 * b) else 8) = nI (mbs n b) := by
  rw [pk_sub hb, show (8 : Int32) = nI 8 from rfl]
  unfold mbs
  by_cases z : n - 8 * b < 8
  · rw [if_pos (nI_lt z (by decide)), Nat.min_eq_right (by omega)]
  · rw [if_neg (nI_nlt (by omega) (by omega)), Nat.min_eq_left (by omega)]
abbrev this0 (h0 : Nat) : va_W := [(h0, .inr (2, [.null, .null, .long 0, .int 0]))]
def ad0 (h0 q1 q2 : Nat) : Nat × Nat → Nat := fun κ => if κ = (0, 0) then h0 else if κ = (1, 0) then q1 else q2
theorem gI_0 {n h0 q1 q2 : Nat} {cN cB cL : ClassId} : ([(h0, .inr (2, [.ref q1, .ref q2, .long 0, .int 0])), (q1, .inl (cN, n, .inr (.inr (.inr (.inr (fun _ => none)))))), (q2, .inl (cB, nbs n, .inr (.inr (.inr (.inr (fun _ => none))))))] : va_W) = kW [(0, 0), (1, 0), (2, 0)] (ad0 h0 q1 q2) (gI n (ad0 h0 q1 q2) cN cB cL 0 0 0) := by
  simp [kW, gI, ad0]
theorem inI_0 : ∀ κ, κ ∈ [((0, 0) : Nat × Nat), (1, 0), (2, 0)] ↔ inI 0 0 κ := by
  intro κ
  simp [inI]
set_option maxHeartbeats 4000000 in
set_option maxRecDepth 100000 in
theorem ct_S_init (l : Launch) (D : va_G) (cN cB cL : ClassId) (h0 : Nat) (x : Int32) (sz : Nat) : Met l ky_S_init (km ky_S_init kc_S_init 8 none) ({ frames := 2, cells := 90, slots := 1064, locals := 47 }) (va_Pc [.ref h0, .int x] (fun U => U.heap.size = sz ∧ va_AO "BusSleep$Node" U ∧ va_AO "BusSleep$Bus" U ∧ va_P D kCl (this0 h0) U.heap ∧ va_K D kCl (tC cN cB cL) U ∧ va_D (fun _ => True) (this0 h0))) (va_Qv (fun ad : Nat × Nat → Nat => ad (0, 0) = h0) (fun ad t => va_P D kCl (kW (kC (cntN x)) ad (gC (cntN x) ad cN cB cL cs0)) t.heap ∧ va_K D kCl (tC cN cB cL) t ∧ va_D (va_A (this0 h0) sz) (kW (kC (cntN x)) ad (gC (cntN x) ad cN cB cL cs0))) (va_A (this0 h0) sz)) 90 1064 (va_A (this0 h0) sz) := by
  refine Met.ofW (cc := kc_S_init) (maxL := 8) (ret := none) (by decide) rfl ?_
  intro p e s m args below meth c s₁ B hml hv
  obtain ⟨rfl, hsz, hAN, hAB, hP, hK, hD0⟩ := hv
  have hx := B.exec
  have hb := B.bytes
  have hr := B.returns
  have hts := atoms_spec (ws := km ky_S_init kc_S_init 8 none) B.pre
  have hT : ∀ w ∈ kB_l, w ∈ km ky_S_init kc_S_init 8 none := fun w h => List.mem_cons_of_mem _ h
  have hw := fun w h => hts w (hT w h)
  have hown : s.vm.findClass kR_S = some m.cls := findClass_of_methodNamed B.named
  have hlocks := B.notSynchronized
  have hin : meth.name = "<init>" := (name_of_methodNamed B.named B.method).1
  subst hsz
  have hD := hD0.self (sz := s.heap.size)
  generalize hAe : va_A (this0 h0) s.heap.size = A at hD ⊢
  have hA : ∀ q : Nat, s.heap.size ≤ q → A q := fun q h => by rw [← hAe]; exact Or.inr h
  have hS : va_S A s.heap s.heap [] := va_S.rf
  have hl := lv_entry ([.ref h0, .int x]) (n := 8) (Nat.le_of_ble_eq_true rfl)
  rw [lg_entry_eq]
  generalize (lg_sl ([.ref h0, .int x]) ++ List.replicate (8 - (lg_sl ([.ref h0, .int x])).length) Slot.unset).toArray = ls at hl ⊢
  have hl : lv_has ls 8 [(0, .ref h0), (1, .int x)] := hl
  have hn := cnt_ok x
  have hca := @cnt_a x
  have hcb := @cnt_b x
  have hcc := @cnt_c x
  generalize cntN x = n at hn hca hcb hcc ⊢
  have outer : ∀ (q b : Nat) (K : List (Nat × Nat)) (ad : Nat × Nat → Nat) (H : Heap) (locs : List Loc) (ls : Array Slot), b ≤ nbs n → nbs n < b + q → ad (0, 0) = h0 → (∀ κ, κ ∈ K ↔ inI (min n (8 * b)) b κ) → va_P D kCl (kW K ad (gI n ad cN cB cL (min n (8 * b)) (min n (8 * b)) b)) H → va_D A (kW K ad (gI n ad cN cB cL (min n (8 * b)) (min n (8 * b)) b)) → va_S A s.heap H locs → lv_has ls 8 [(0, .ref (ad (0, 0))), (2, .int (nI n)), (3, .int (nI b))] → W p l e (headSpec (km ky_S_init kc_S_init 8 none) ({ frames := 2, cells := 90, slots := 1064, locals := 47 })).room s m [.ref h0, .int x].toArray below meth c H locs (2 + 3 * b + min n (8 * b)) (72 + 44 * b + 10 * min n (8 * b)) (MQ below (va_Qv (fun ad : Nat × Nat → Nat => ad (0, 0) = h0) (fun ad t => va_P D kCl (kW (kC n) ad (gC n ad cN cB cL cs0)) t.heap ∧ va_K D kCl (tC cN cB cL) t ∧ va_D A (kW (kC n) ad (gC n ad cN cB cL cs0))) A) [.ref h0, .int x].toArray s 90 1064 A) (F0 m 48 ls []) := by
    have hnb : nbs n ≤ 8 := by unfold nbs; omega
    intro q
    induction q with
    | zero => intro b K ad H locs ls h1 h2; exact absurd h2 (by omega)
    | succ q ih =>
      intro b K ad H locs ls hb1 hq hh hKK hP hD hS hl
      have m0 : (0, 0) ∈ K := (hKK _).mpr (Or.inl rfl)
      have m2 : (2, 0) ∈ K := (hKK _).mpr (Or.inr (Or.inr (Or.inl rfl)))
      refine lv_iload_n hx hb kd_S_init_48 rfl (lv_at hl 2 rfl) ?_
      refine lv_aload_n hx hb kd_S_init_49 rfl (lv_at hl 0 rfl) ?_
      refine kx_get (ci := 2) (v := .ref (ad (2, 0))) (κ := (0, 0)) hx hb hw ki_S hown hK hP m0 rfl rfl 1 (by decide) kw_91 rfl rfl kd_S_init_50 ?_
      refine kx_alen (κ := (2, 0)) (n := nbs n) hx hb hK hP m2 1 rfl rfl kd_S_init_53 ?_
      refine lv_icmp_ge (tgt := 156) hx hb kd_S_init_54 (by decide) (fun c1 => ?_) (fun c1 => ?_)
      · have hbe : b = nbs n := lp_end (by omega) hb1 c1
        have hmn : min n (8 * b) = n := by rw [hbe]; unfold nbs; omega
        rw [hmn] at hKK hP hD
        rw [hbe] at hKK hP hD
        obtain ⟨hP9, hD9⟩ := gI_end hn.2 hKK hP hD
        refine W.widen (k := 90) (n := 1064) (by omega) (by omega) ?_
        exact W.vret hx hb hr (fun t ht hW => ⟨⟨ad, rfl, hh, by rw [ht]; exact hP9, va_K.moved hW.alike hK, hD9⟩, hS.F ht⟩) hS.2.2 kd_S_init_156
      · have hlt : b < nbs n := lp_go (by omega) hb1 c1
        have h8 : 8 * b < n := by unfold nbs at hlt; omega
        have hmn : min n (8 * b) = 8 * b := by omega
        rw [hmn] at hKK hP hD
        refine lv_iload_n hx hb kd_S_init_57 rfl (lv_at hl 2 rfl) ?_
        refine lv_bipush (v := 8) hx hb kd_S_init_58 (by decide) ?_
        refine lv_imul hx hb kd_S_init_60 ?_
        rw [f8_e]
        refine lv_istore (lv' := [(4, .int (nI (8 * b))), (0, .ref (ad (0, 0))), (2, .int (nI n)), (3, .int (nI b))]) hx hb kd_S_init_61 hl (by decide) rfl (fun ls hl => ?_)
        refine va_new (ci := 0) (fs := [.null, .null, .int 0, .int 0]) (C := kR_B) (T := kT_B) (N := 4) hx hb hw ki_B kt_B ko_B hown (hw _ kw_17) (hw _ kw_19) (hw _ kw_2) hK hP hD hS hA rfl (fun j hj => by rcases (show j = 0 ∨ j = 1 ∨ j = 2 ∨ j = 3 by omega) with rfl | rfl | rfl | rfl <;> rfl) (show _ + 1 ≤ 90 by omega) (show _ + 4 ≤ 1064 by omega) kd_S_init_63 (fun qb H hP hD hS => ?_)
        refine lv_dup hx hb kd_S_init_66 rfl ?_
        refine lv_iload_n hx hb kd_S_init_67 rfl (lv_at hl 3 rfl) ?_
        refine lv_bipush (v := 8) hx hb kd_S_init_68 (by decide) ?_
        refine lv_iload_n hx hb kd_S_init_70 rfl (lv_at hl 2 rfl) ?_
        refine lv_iload hx hb kd_S_init_71 (lv_at hl 0 rfl) ?_
        refine lv_isub hx hb kd_S_init_73 ?_
        refine va_mmin hx hb (by rw [hml]; exact hl.1.symm) hown (hw _ kw_20) (hw _ kw_21) (hw _ kw_3) (hw _ kw_22) (Nat.le_of_ble_eq_true rfl) (Nat.le_of_ble_eq_true rfl) (show _ ≤ 90 by omega) (show _ ≤ 1064 by omega) kd_S_init_74 ?_
        rw [mn_e hn.2 (by omega)]
        have hFc := va_freeS hD hS hA
        obtain ⟨hPc, hDc⟩ := va_snd hP hD
        refine va_callv (va_runI (As := [.int (nI b), .int (nI (mbs n b))]) (rest := [.ref qb]) ⟨hx, hb, hml, hown, hts⟩ (ct_B_init l D cN cB cL qb (nI b) (k := mbs n b) (by unfold mbs; omega) H.size) (cwI 2 hts (km_good hT kw_25) rfl rfl rfl (hw _ kw_2) (hw _ kw_23) (hw _ kw_24) rfl (by decide +kernel) ⟨Nat.le_of_ble_eq_true rfl, Nat.le_of_ble_eq_true rfl⟩) ⟨fun a U g mk z => by obtain ⟨z0, z1, z2, zP, zK, zD⟩ := z; exact ⟨z0, z1, va_AO.moved (u := U) (U := U.calling g mk a) (Vm.Alike.refl U.vm) z2, zP, va_K.moved (u := U) (U := U.calling g mk a) (Vm.Alike.refl U.vm) zK, zD⟩, fun U hU hW => ⟨rfl, by rw [hU], va_AO.moved hW.alike hAN, by rw [hU]; exact hPc, va_K.moved hW.alike hK, hDc.weaken (fun _ _ _ _ => trivial)⟩⟩ rfl rfl hl.1 rfl (lv_room (Nat.le_of_ble_eq_true rfl)) kd_S_init_77 ⟨show _ + 2 ≤ 90 by omega, show _ + 40 ≤ 1064 by omega⟩) hS (fun q _ h => hFc q h) hFc (fun u t H1 locs ht hvm hw1 hB hz1 hk1 hS => ?_)
        obtain ⟨q5, q6⟩ := u
        obtain ⟨hP1, -, hD1⟩ := hB
        rw [ht] at hP1
        obtain ⟨hPn, hDn⟩ := va_jn hP hD hk1 hFc hP1 hD1
        rw [gI_bus (fun κ h => (hKK κ).mp h) (by omega)] at hPn hDn
        have hK2 := inI_bus hKK
        have e0 : au3 ad b qb q5 q6 (0, 0) = ad (0, 0) := by simp [au3]
        have e4 : au3 ad b qb q5 q6 (4, b) = qb := by simp [au3]
        generalize au3 ad b qb q5 q6 = ad2 at hPn hDn e0 e4
        generalize K ++ [(4, b), (5, b), (6, b)] = K2 at hPn hDn hK2
        subst e4
        have hP := hPn
        have hD := hDn
        rw [← e0] at hl hh
        refine lv_astore (lv' := [(5, .ref (ad2 (4, b))), (4, .int (nI (8 * b))), (0, .ref (ad2 (0, 0))), (2, .int (nI n)), (3, .int (nI b))]) hx hb kd_S_init_80 hl (by decide) rfl (fun ls hl => ?_)
        refine lv_aload_n hx hb kd_S_init_82 rfl (lv_at hl 2 rfl) ?_
        refine kx_get (ci := 2) (v := .ref (ad2 (2, 0))) (κ := (0, 0)) hx hb hw ki_S hown hK hP ((hK2 _).mpr (Or.inl rfl)) rfl rfl 1 (by decide) kw_91 rfl rfl kd_S_init_83 ?_
        refine lv_iload_n hx hb kd_S_init_86 rfl (lv_at hl 4 rfl) ?_
        refine lv_aload hx hb kd_S_init_87 (lv_at hl 0 rfl) ?_
        refine kx_aast (κ := (2, 0)) (κv := (4, b)) (i := b) (ci := 0) hx hb hK hP hD hS ((hK2 _).mpr (Or.inr (Or.inr (Or.inl rfl)))) ((hK2 _).mpr (Or.inr (Or.inr (Or.inr (Or.inr ⟨b, Nat.lt_succ_self b, Or.inl rfl⟩))))) 1 rfl rfl rfl rfl rfl hlt (by omega) gI_b kd_S_init_89 (fun H locs hP hD hS => ?_)
        refine lv_iconst (v := 0) hx hb kd_S_init_90 (by decide) ?_
        refine lv_istore (lv' := [(6, .int 0), (5, .ref (ad2 (4, b))), (4, .int (nI (8 * b))), (0, .ref (ad2 (0, 0))), (2, .int (nI n)), (3, .int (nI b))]) hx hb kd_S_init_91 hl (by decide) rfl (fun ls hl => ?_)
        have inner : ∀ (q k : Nat) (K : List (Nat × Nat)) (ad : Nat × Nat → Nat) (H : Heap) (locs : List Loc) (ls : Array Slot), k ≤ mbs n b → mbs n b < k + q → ad (0, 0) = h0 → (∀ κ, κ ∈ K ↔ inI (8 * b + k) (b + 1) κ) → va_P D kCl (kW K ad (gI n ad cN cB cL (8 * b + k) (8 * b + k) (b + 1))) H → va_D A (kW K ad (gI n ad cN cB cL (8 * b + k) (8 * b + k) (b + 1))) → va_S A s.heap H locs → lv_has ls 8 [(0, .ref (ad (0, 0))), (2, .int (nI n)), (3, .int (nI b)), (4, .int (nI (8 * b))), (5, .ref (ad (4, b))), (6, .int (nI k))] → W p l e (headSpec (km ky_S_init kc_S_init 8 none) ({ frames := 2, cells := 90, slots := 1064, locals := 47 })).room s m [.ref h0, .int x].toArray below meth c H locs (2 + 3 * (b + 1) + (8 * b + k)) (72 + 44 * (b + 1) + 10 * (8 * b + k)) (MQ below (va_Qv (fun ad : Nat × Nat → Nat => ad (0, 0) = h0) (fun ad t => va_P D kCl (kW (kC n) ad (gC n ad cN cB cL cs0)) t.heap ∧ va_K D kCl (tC cN cB cL) t ∧ va_D A (kW (kC n) ad (gC n ad cN cB cL cs0))) A) [.ref h0, .int x].toArray s 90 1064 A) (F0 m 93 ls []) := by
          have hmb : mbs n b ≤ 8 := by unfold mbs; omega
          have hmn2 : 8 * b + mbs n b ≤ n := by unfold mbs; omega
          have hmx : min n (8 * (b + 1)) = 8 * b + mbs n b := by unfold mbs; omega
          intro q2
          induction q2 with
          | zero => intro k K ad H locs ls h1 h2; exact absurd h2 (by omega)
          | succ q2 ih2 =>
            intro k K ad H locs ls hk1 hq2 hh hKK hP hD hS hl
            have m0 : (0, 0) ∈ K := (hKK _).mpr (Or.inl rfl)
            have m1 : (1, 0) ∈ K := (hKK _).mpr (Or.inr (Or.inl rfl))
            have m4 : (4, b) ∈ K := (hKK _).mpr (Or.inr (Or.inr (Or.inr (Or.inr ⟨b, Nat.lt_succ_self b, Or.inl rfl⟩))))
            have m5 : (5, b) ∈ K := (hKK _).mpr (Or.inr (Or.inr (Or.inr (Or.inr ⟨b, Nat.lt_succ_self b, Or.inr (Or.inl rfl)⟩))))
            refine lv_iload hx hb kd_S_init_93 (lv_at hl 5 rfl) ?_
            refine lv_aload hx hb kd_S_init_95 (lv_at hl 4 rfl) ?_
            refine kx_get (ci := 0) (v := .ref (ad (5, b))) (κ := (4, b)) hx hb hw ki_B hown hK hP m4 rfl rfl 0 (by decide) kw_33 rfl rfl kd_S_init_97 ?_
            refine kx_alen (κ := (5, b)) (n := mbs n b) hx hb hK hP m5 0 rfl rfl kd_S_init_100 ?_
            refine lv_icmp_ge (tgt := 150) hx hb kd_S_init_101 (by decide) (fun c2 => ?_) (fun c2 => ?_)
            · have hke : k = mbs n b := lp_end (by omega) hk1 c2
              subst hke
              refine lv_iinc (v := nI (b + 1)) (lv' := [(3, .int (nI (b + 1))), (0, .ref (ad (0, 0))), (2, .int (nI n)), (4, .int (nI (8 * b))), (5, .ref (ad (4, b))), (6, .int (nI (mbs n b)))]) hx hb kd_S_init_150 hl (k := 2) rfl (nI_1 b) (by decide) rfl (fun ls hl => ?_)
              refine lv_goto (tgt := 48) hx hb kd_S_init_153 (by decide) ?_
              have z := ih (b + 1) K ad H locs ls hlt (by omega) hh (by rw [hmx]; exact hKK) (by rw [hmx]; exact hP) (by rw [hmx]; exact hD) hS (lv_sub hl [1, 2, 0] rfl)
              rw [hmx] at z
              exact z
            · have hkl : k < mbs n b := lp_go (by omega) hk1 c2
              refine va_new (ci := 1) (fs := nodD) (C := kR_N) (T := kT_N) (N := 10) hx hb hw ki_N kt_N ko_N hown (hw _ kw_15) (hw _ kw_49) (hw _ kw_4) hK hP hD hS hA rfl (fun j hj => by rcases (show j = 0 ∨ j = 1 ∨ j = 2 ∨ j = 3 ∨ j = 4 ∨ j = 5 ∨ j = 6 ∨ j = 7 ∨ j = 8 ∨ j = 9 by omega) with rfl | rfl | rfl | rfl | rfl | rfl | rfl | rfl | rfl | rfl <;> rfl) (show _ + 1 ≤ 90 by omega) (show _ + 10 ≤ 1064 by omega) kd_S_init_104 (fun qn H hP hD hS => ?_)
              refine lv_dup hx hb kd_S_init_107 rfl ?_
              refine lv_iload hx hb kd_S_init_108 (lv_at hl 3 rfl) ?_
              refine lv_iload hx hb kd_S_init_110 (lv_at hl 5 rfl) ?_
              refine lv_iadd hx hb kd_S_init_112 ?_
              refine lv_iconst (v := 1) hx hb kd_S_init_113 (by decide) ?_
              refine lv_iadd hx hb kd_S_init_114 ?_
              rw [nI_add, nI_1]
              refine lv_aload hx hb kd_S_init_115 (lv_at hl 4 rfl) ?_
              have hFc := va_freeS hD hS hA
              obtain ⟨hPc, hDc⟩ := va_snd hP hD
              refine va_callv (va_runI (As := [.int (nI (8 * b + k + 1)), .ref (ad (4, b))]) (rest := [.ref qn]) ⟨hx, hb, hml, hown, hts⟩ (ct_N_init l D (tC cN cB cL) qn (nI (8 * b + k + 1)) (ad (4, b)) H.size) (cwI 2 hts (km_good hT kw_52) rfl rfl rfl (hw _ kw_4) (hw _ kw_50) (hw _ kw_51) rfl (by decide +kernel) ⟨Nat.le_of_ble_eq_true rfl, Nat.le_of_ble_eq_true rfl⟩) ⟨fun a U g mk z => by obtain ⟨z0, z1, zP, zK, zD⟩ := z; exact ⟨z0, z1, zP, va_K.moved (u := U) (U := U.calling g mk a) (Vm.Alike.refl U.vm) zK, zD⟩, fun U hU hW => ⟨rfl, by rw [hU], by rw [hU]; exact hPc, va_K.moved hW.alike hK, hDc.weaken (fun _ _ _ _ => trivial)⟩⟩ rfl rfl hl.1 rfl (lv_room (Nat.le_of_ble_eq_true rfl)) kd_S_init_117 ⟨show _ + 0 ≤ 90 by omega, show _ + 0 ≤ 1064 by omega⟩) hS (fun q _ h => hFc q h) hFc (fun u t H1 locs ht hvm hw1 hB hz1 hk2 hS => ?_)
              obtain ⟨hP1, -, hD1⟩ := hB
              rw [ht] at hP1
              obtain ⟨hPn, hDn⟩ := va_jn hP hD hk2 hFc hP1 hD1
              rw [show ad (4, b) = ad (4, (8 * b + k) / 8) by congr 2; omega] at hPn hDn
              rw [gI_node (fun κ h => (hKK κ).mp h) (by omega)] at hPn hDn
              have hK2 := inI_node hKK
              have e0 : au1 ad (8 * b + k) qn (0, 0) = ad (0, 0) := by simp [au1]
              have e4 : au1 ad (8 * b + k) qn (4, b) = ad (4, b) := by simp [au1]
              have e3 : au1 ad (8 * b + k) qn (3, 8 * b + k) = qn := by simp [au1]
              generalize au1 ad (8 * b + k) qn = ad2 at hPn hDn e0 e3 e4
              generalize K ++ [(3, 8 * b + k)] = K2 at hPn hDn hK2
              subst e3
              have hP := hPn
              have hD := hDn
              rw [← e0, ← e4] at hl
              rw [← e0] at hh
              have n0 : (0, 0) ∈ K2 := (hK2 _).mpr (Or.inl rfl)
              have n1 : (1, 0) ∈ K2 := (hK2 _).mpr (Or.inr (Or.inl rfl))
              have n3 : (3, 8 * b + k) ∈ K2 := (hK2 _).mpr (Or.inr (Or.inr (Or.inr (Or.inl ⟨8 * b + k, Nat.lt_succ_self _, rfl⟩))))
              have n4 : (4, b) ∈ K2 := (hK2 _).mpr (Or.inr (Or.inr (Or.inr (Or.inr ⟨b, Nat.lt_succ_self b, Or.inl rfl⟩))))
              have n5 : (5, b) ∈ K2 := (hK2 _).mpr (Or.inr (Or.inr (Or.inr (Or.inr ⟨b, Nat.lt_succ_self b, Or.inr (Or.inl rfl)⟩))))
              refine lv_astore (lv' := [(7, .ref (ad2 (3, 8 * b + k))), (0, .ref (ad2 (0, 0))), (2, .int (nI n)), (3, .int (nI b)), (4, .int (nI (8 * b))), (5, .ref (ad2 (4, b))), (6, .int (nI k))]) hx hb kd_S_init_120 hl (by decide) rfl (fun ls hl => ?_)
              refine lv_aload hx hb kd_S_init_122 (lv_at hl 5 rfl) ?_
              refine kx_get (ci := 0) (v := .ref (ad2 (5, b))) (κ := (4, b)) hx hb hw ki_B hown hK hP n4 rfl rfl 0 (by decide) kw_33 rfl rfl kd_S_init_124 ?_
              refine lv_iload hx hb kd_S_init_127 (lv_at hl 6 rfl) ?_
              refine lv_aload hx hb kd_S_init_129 (lv_at hl 0 rfl) ?_
              refine kx_aast (κ := (5, b)) (κv := (3, 8 * b + k)) (i := k) (ci := 1) hx hb hK hP hD hS n5 n3 0 rfl rfl rfl rfl rfl hkl (by omega) (gI_5 (by omega) rfl) kd_S_init_131 (fun H locs hP hD hS => ?_)
              refine lv_aload_n hx hb kd_S_init_132 rfl (lv_at hl 1 rfl) ?_
              refine kx_get (ci := 2) (v := .ref (ad2 (1, 0))) (κ := (0, 0)) hx hb hw ki_S hown hK hP n0 rfl rfl 0 (by decide) kw_90 rfl rfl kd_S_init_133 ?_
              refine lv_iload hx hb kd_S_init_136 (lv_at hl 4 rfl) ?_
              refine lv_iload hx hb kd_S_init_138 (lv_at hl 6 rfl) ?_
              refine lv_iadd hx hb kd_S_init_140 ?_
              refine lv_aload hx hb kd_S_init_141 (lv_at hl 0 rfl) ?_
              refine kx_aast (κ := (1, 0)) (κv := (3, 8 * b + k)) (i := 8 * b + k) (ci := 1) hx hb hK hP hD hS n1 n3 0 rfl rfl rfl rfl (nI_add _ _) (by omega) (by omega) gI_1 kd_S_init_143 (fun H locs hP hD hS => ?_)
              refine lv_iinc (v := nI (k + 1)) (lv' := [(6, .int (nI (k + 1))), (7, .ref (ad2 (3, 8 * b + k))), (0, .ref (ad2 (0, 0))), (2, .int (nI n)), (3, .int (nI b)), (4, .int (nI (8 * b))), (5, .ref (ad2 (4, b)))]) hx hb kd_S_init_144 hl (k := 6) rfl (nI_1 k) (by decide) rfl (fun ls hl => ?_)
              refine lv_goto (tgt := 93) hx hb kd_S_init_147 (by decide) ?_
              refine W.widen (k := 2 + 3 * (b + 1) + (8 * b + (k + 1))) (n := 72 + 44 * (b + 1) + 10 * (8 * b + (k + 1))) (by omega) (by omega) ?_
              exact ih2 (k + 1) K2 ad2 H locs ls hkl (by omega) hh hK2 hP hD hS (lv_sub hl [2, 3, 4, 5, 6, 0] rfl)
        refine W.widen (k := 2 + 3 * (b + 1) + (8 * b + 0)) (n := 72 + 44 * (b + 1) + 10 * (8 * b + 0)) (by omega) (by omega) ?_
        exact inner (mbs n b + 1) 0 K2 ad2 _ _ _ (Nat.zero_le _) (by omega) hh hK2 hP hD hS (lv_sub hl [3, 4, 5, 2, 1, 0] rfl)
  have rest : W p l e (headSpec (km ky_S_init kc_S_init 8 none) ({ frames := 2, cells := 90, slots := 1064, locals := 47 })).room s m [.ref h0, .int x].toArray below meth c s.heap [] 0 0 (MQ below (va_Qv (fun ad : Nat × Nat → Nat => ad (0, 0) = h0) (fun ad t => va_P D kCl (kW (kC n) ad (gC n ad cN cB cL cs0)) t.heap ∧ va_K D kCl (tC cN cB cL) t ∧ va_D A (kW (kC n) ad (gC n ad cN cB cL cs0))) A) [.ref h0, .int x].toArray s 90 1064 A) (F0 m 21 ls [.int (nI n)]) := by
    have hnb : nbs n ≤ 8 := by unfold nbs; omega
    refine lv_istore_n (lv' := [(2, .int (nI n)), (0, .ref h0), (1, .int x)]) hx hb kd_S_init_21 rfl hl (by decide) rfl (fun ls hl => ?_)
    refine lv_aload_n hx hb kd_S_init_22 rfl (lv_at hl 1 rfl) ?_
    refine lv_iload_n hx hb kd_S_init_23 rfl (lv_at hl 0 rfl) ?_
    refine va_newq (N' := n) hx hb hown (hw _ kw_15) hAN hK hP hD hS hA (nI_pos (by omega)) (nI_clamp (by omega)) (by omega) (Nat.le_of_ble_eq_true rfl) (show 0 + n ≤ 1064 by omega) kd_S_init_24 (fun q1 cA H hK1 hP hD hS => ?_)
    obtain rfl : cA = cN := k_uni hK1 (i := 3) (j := 0) rfl rfl
    have hP : va_P D kCl [(h0, .inr (2, [.null, .null, .long 0, .int 0])), (q1, .inl (cA, n, .inr (.inr (.inr (.inr (fun _ => none))))))] H := hP
    have hD : va_D A [(h0, .inr (2, [.null, .null, .long 0, .int 0])), (q1, .inl (cA, n, .inr (.inr (.inr (.inr (fun _ => none))))))] := hD
    refine W.widen (k := 1) (n := 64) (by omega) (by omega) ?_
    refine va_putF (D := (D)) (ci := 2) (v := .ref q1) (C := kR_S) (T := kT_S) (N := 4) hx hb hw ki_S kt_S ko_S kn_S hown hK hP hD hS 0 rfl rfl 0 (by decide) (hw _ kw_90) (fun _ h9 => h9) rfl hin rfl (ko_S 0 (by decide)) rfl rfl (Nat.le_of_ble_eq_true rfl) kd_S_init_27 (fun H locs hP hD hS => ?_)
    have hP : va_P D kCl [(h0, .inr (2, [.ref q1, .null, .long 0, .int 0])), (q1, .inl (cA, n, .inr (.inr (.inr (.inr (fun _ => none))))))] H := hP
    have hD : va_D A [(h0, .inr (2, [.ref q1, .null, .long 0, .int 0])), (q1, .inl (cA, n, .inr (.inr (.inr (.inr (fun _ => none))))))] := hD
    refine lv_aload_n hx hb kd_S_init_30 rfl (lv_at hl 1 rfl) ?_
    refine lv_iload_n hx hb kd_S_init_31 rfl (lv_at hl 0 rfl) ?_
    refine lv_bipush (v := 8) hx hb kd_S_init_32 (by decide) ?_
    refine lv_iadd hx hb kd_S_init_34 ?_
    refine lv_iconst (v := 1) hx hb kd_S_init_35 (by decide) ?_
    refine lv_isub hx hb kd_S_init_36 ?_
    refine lv_bipush (v := 8) hx hb kd_S_init_37 (by decide) ?_
    refine lv_idiv hx hb kd_S_init_39 (by decide) ?_
    rw [nb_e hn.2]
    refine va_newq (N' := nbs n) hx hb hown (hw _ kw_17) hAB hK hP hD hS hA (nI_pos (by omega)) (nI_clamp (by omega)) (by omega) (Nat.le_of_ble_eq_true rfl) (show 64 + nbs n ≤ 1064 by omega) kd_S_init_40 (fun q2 cA2 H hK2 hP hD hS => ?_)
    obtain rfl : cA2 = cB := k_uni hK2 (i := 3) (j := 1) rfl rfl
    have hP : va_P D kCl [(h0, .inr (2, [.ref q1, .null, .long 0, .int 0])), (q1, .inl (cA, n, .inr (.inr (.inr (.inr (fun _ => none)))))), (q2, .inl (cA2, nbs n, .inr (.inr (.inr (.inr (fun _ => none))))))] H := hP
    have hD : va_D A [(h0, .inr (2, [.ref q1, .null, .long 0, .int 0])), (q1, .inl (cA, n, .inr (.inr (.inr (.inr (fun _ => none)))))), (q2, .inl (cA2, nbs n, .inr (.inr (.inr (.inr (fun _ => none))))))] := hD
    refine W.widen (k := 2) (n := 72) (by omega) (by omega) ?_
    refine va_putF (D := (D)) (ci := 2) (v := .ref q2) (C := kR_S) (T := kT_S) (N := 4) hx hb hw ki_S kt_S ko_S kn_S hown hK hP hD hS 0 rfl rfl 1 (by decide) (hw _ kw_91) (fun _ h9 => h9) rfl hin rfl (ko_S 1 (by decide)) rfl rfl (Nat.le_of_ble_eq_true rfl) kd_S_init_43 (fun H locs hP hD hS => ?_)
    have hP : va_P D kCl [(h0, .inr (2, [.ref q1, .ref q2, .long 0, .int 0])), (q1, .inl (cA, n, .inr (.inr (.inr (.inr (fun _ => none)))))), (q2, .inl (cA2, nbs n, .inr (.inr (.inr (.inr (fun _ => none))))))] H := hP
    have hD : va_D A [(h0, .inr (2, [.ref q1, .ref q2, .long 0, .int 0])), (q1, .inl (cA, n, .inr (.inr (.inr (.inr (fun _ => none)))))), (q2, .inl (cA2, nbs n, .inr (.inr (.inr (.inr (fun _ => none))))))] := hD
    rw [gI_0 (cL := cL)] at hP hD
    refine lv_iconst (v := 0) hx hb kd_S_init_46 (by decide) ?_
    refine lv_istore_n (lv' := [(3, .int 0), (2, .int (nI n)), (0, .ref h0), (1, .int x)]) hx hb kd_S_init_47 rfl hl (by decide) rfl (fun ls hl => ?_)
    have hm0 : min n (8 * 0) = 0 := by omega
    have z := outer (nbs n + 1) 0 _ (ad0 h0 q1 q2) H locs ls (Nat.zero_le _) (by omega) rfl (by rw [hm0]; exact inI_0) (by rw [hm0]; exact hP) (by rw [hm0]; exact hD) hS (lv_sub hl [2, 1, 0] rfl)
    rw [hm0] at z
    exact z
  refine lv_aload_n hx hb kd_S_init_0 rfl (lv_at hl 0 rfl) ?_
  refine W.objInit hx hb hown (hw _ kw_12) (hw _ kw_13) (hw _ kw_14) rfl (by rw [hml]; exact hl.1) rfl kd_S_init_1 (Nat.le_of_ble_eq_true rfl) (Nat.le_of_ble_eq_true rfl) ?_
  refine W.eq (g2 := F0 m 4 ls []) rfl ?_
  refine lv_iload_n hx hb kd_S_init_4 rfl (lv_at hl 1 rfl) ?_
  refine lv_iconst (v := 1) hx hb kd_S_init_5 (by decide) ?_
  refine lv_icmp_lt (tgt := 19) hx hb kd_S_init_6 (by decide) (fun c1 => ?_) (fun c1 => ?_)
  · refine lv_bipush (v := 8) hx hb kd_S_init_19 (by decide) ?_
    rw [show nI n = 8 by rw [hca c1]; rfl] at rest
    exact rest
  · refine lv_iload_n hx hb kd_S_init_9 rfl (lv_at hl 1 rfl) ?_
    refine lv_bipush (v := 64) hx hb kd_S_init_10 (by decide) ?_
    refine lv_icmp_gt (tgt := 19) hx hb kd_S_init_12 (by decide) (fun c2 => ?_) (fun c2 => ?_)
    · refine lv_bipush (v := 8) hx hb kd_S_init_19 (by decide) ?_
      rw [show nI n = 8 by rw [hcb c1 c2]; rfl] at rest
      exact rest
    · refine lv_iload_n hx hb kd_S_init_15 rfl (lv_at hl 1 rfl) ?_
      refine lv_goto (tgt := 21) hx hb kd_S_init_16 (by decide) ?_
      rw [(hcc c1 c2).1] at rest
      exact rest
