/-! what a call says on both sides -/
def Nxt (n a : Nat) (τ : CS) (ν : MS) : Prop := ∃ k a2, a2 ≤ a + 1000 ∧ Sim n k a2 τ ν
theorem Nxt.of {n a : Nat} {k : Int32} {τ : CS} {ν : MS} (h : Sim n k a τ ν) : Nxt n a τ ν := ⟨k, a, by omega, h⟩
/-- two answers to the same number -/
theorem nd_2 {n : Nat} {k : Int32} {y1 y2 : Nat → Prop} {n1 n2 C : Prop} (h1 : ndP n k y1 n1) (h2 : ndP n k y2 n2) (hy : ∀ i, i < n → y1 i → y2 i → C) (hno : n1 → n2 → C) : C := by
  by_cases h : ∃ i, i < n ∧ k = nI (i + 1)
  · obtain ⟨i, hi, e⟩ := h
    exact hy i hi (h1.1 i hi e) (h2.1 i hi e)
  · have z : ∀ i, i < n → ¬ k = nI (i + 1) := fun i hi e => h ⟨i, hi, e⟩
    exact hno (h1.2 z) (h2.2 z)
section OPS
variable {n a : Nat} {κ : Int32} {σ τ : CS} {μ ν : MS} {r1 r2 k k2 on b f x : Int32} {t : Int64}
theorem pr_eq {α : Type} {r : Int32} {τ : α} {p : Int32 × α} (h : (r, τ) = p) : r = p.1 ∧ τ = p.2 := by rw [← h]; exact ⟨rfl, rfl⟩
theorem op_no (h : Sim n κ a σ μ) (h1 : (r1, τ) = (-1, σ)) (h2 : (r2, ν) = (-1, mC0 μ)) : r1 = r2 ∧ Nxt n a τ ν := by
  obtain ⟨e1, e2⟩ := pr_eq h1
  obtain ⟨e3, e4⟩ := pr_eq h2
  rw [e1, e2, e3, e4]
  exact ⟨rfl, Nxt.of (sim_c0 h)⟩
theorem op_pr {p : Int32 × CS} {q : Int32 × MS} (hs : p.1 = q.1 ∧ Nxt n a p.2 q.2) (h1 : (r1, τ) = p) (h2 : (r2, ν) = q) : r1 = r2 ∧ Nxt n a τ ν := by
  obtain ⟨e1, e2⟩ := pr_eq h1
  obtain ⟨e3, e4⟩ := pr_eq h2
  rw [e1, e2, e3, e4]
  exact hs
theorem op_request (h : Sim n κ a σ μ) (h1 : ndP n k (fun i => (r1, τ) = rqF σ i on) ((r1, τ) = (-1, σ))) (h2 : ndP n k (fun i => (r2, ν) = mRqF μ (i + 1) on) ((r2, ν) = (-1, mC0 μ))) : r1 = r2 ∧ Nxt n a τ ν :=
  nd_2 h1 h2 (fun _ hi e1 e2 => op_pr ⟨(sim_rq h hi).1, Nxt.of (sim_rq h hi).2⟩ e1 e2) (op_no h)
theorem op_alive (hn : n ≤ 64) (ha : a < 2 ^ 30) (h : Sim n κ a σ μ) (h1 : ndP n k (fun i => (r1, τ) = alF n σ i t) ((r1, τ) = (-1, σ))) (h2 : ndP n k (fun i => (r2, ν) = mAlF n μ (i + 1) t) ((r2, ν) = (-1, mC0 μ))) : r1 = r2 ∧ Nxt n a τ ν :=
  nd_2 h1 h2 (fun _ hi e1 e2 => op_pr (by obtain ⟨z1, a2, z2, z3⟩ := sim_al hn ha h hi; exact ⟨z1, κ, a2, z2, z3⟩) e1 e2) (op_no h)
theorem op_tick (hn : n ≤ 64) (ha : a < 2 ^ 30) (h : Sim n κ a σ μ) (h1 : (r1, τ) = tiF n σ t) (h2 : (r2, ν) = mTiF n μ t) : r1 = r2 ∧ Nxt n a τ ν :=
  op_pr (by obtain ⟨z1, k2, a2, z2, z3⟩ := sim_ti hn ha h; exact ⟨z1, k2, a2, z2, z3⟩) h1 h2
theorem op_state (h : Sim n κ a σ μ) (h1 : ndP n k (fun i => (r1, τ) = stF σ i) ((r1, τ) = (-1, σ))) (h2 : ndP n k (fun i => (r2, ν) = mStF μ (i + 1)) ((r2, ν) = (-1, mC0 μ))) : r1 = r2 ∧ Nxt n a τ ν :=
  nd_2 h1 h2 (fun _ hi e1 e2 => op_pr ⟨(sim_st h hi).1, Nxt.of (sim_st h hi).2⟩ e1 e2) (op_no h)
theorem op_wake (hn : n ≤ 64) (ha : a < 2 ^ 30) (h : Sim n κ a σ μ) (h1 : (r1, τ) = waF n σ f t) (h2 : (r2, ν) = mWaF n μ f t) : r1 = r2 ∧ Nxt n a τ ν :=
  op_pr (by obtain ⟨z1, a2, z2, z3⟩ := sim_wa hn ha h; exact ⟨z1, κ, a2, z2, z3⟩) h1 h2
theorem op_bit (h : Sim n κ a σ μ) (h1 : ndP n k (fun i => (r1, τ) = biF σ i b on) ((r1, τ) = (-1, σ))) (h2 : ndP n k (fun i => (r2, ν) = mBiF μ (i + 1) b on) ((r2, ν) = (-1, mC0 μ))) : r1 = r2 ∧ Nxt n a τ ν :=
  nd_2 h1 h2 (fun _ hi e1 e2 => op_pr ⟨(sim_bi bc_eq h hi).1, Nxt.of (sim_bi bc_eq h hi).2⟩ e1 e2) (op_no h)
theorem op_needs (hn : n ≤ 64) (ha : a < 2 ^ 30) (h : Sim n κ a σ μ)
    (h1 : ndP n k (fun i => (okT σ.2.2.1 t → goT n σ t = τ ∧ ((r1 = 1 ∧ ndC n τ i) ∨ (r1 = 0 ∧ ¬ ndC n τ i))) ∧ (¬ okT σ.2.2.1 t → (r1, τ) = (-2, σ))) ((r1, τ) = (-1, σ)))
    (h2 : ndP n k (fun i => (okT μ.2.2.2.2.1 t → mGoT n (mC0 μ) t = ν ∧ ((r2 = 1 ∧ ndE ν (i + 1) 8 0) ∨ (r2 = 0 ∧ ¬ ndE ν (i + 1) 8 0))) ∧ (¬ okT μ.2.2.2.2.1 t → (r2, ν) = (-2, mC0 μ))) ((r2, ν) = (-1, mC0 μ))) : r1 = r2 ∧ Nxt n a τ ν := by
  refine nd_2 h1 h2 (fun i hi e1 e2 => ?_) (op_no h)
  have hok : okT σ.2.2.1 t ↔ okT μ.2.2.2.2.1 t := by rw [h.2.2.2.1, h.2.2.2.2.1]
  by_cases o : okT σ.2.2.1 t
  · obtain ⟨g1, q1⟩ := e1.1 o
    obtain ⟨g2, q2⟩ := e2.1 (hok.mp o)
    obtain ⟨a2, ha1, ha2, z⟩ := sim_goT hn ha (sim_c0 h) o
    rw [g1, g2] at z
    refine ⟨?_, κ, a2, ha2, z⟩
    have hnd := sim_nd hn (by omega) z hi
    rcases q1 with ⟨y1, y2⟩ | ⟨y1, y2⟩ <;> rcases q2 with ⟨y3, y4⟩ | ⟨y3, y4⟩
    · rw [y1, y3]
    · exact absurd (hnd.mp y2) y4
    · exact absurd (hnd.mpr y4) y2
    · rw [y1, y3]
  · exact op_pr (p := (-2, σ)) (q := (-2, mC0 μ)) ⟨rfl, Nxt.of (sim_c0 h)⟩ (e1.2 o) (e2.2 (fun z => o (hok.mpr z)))
theorem op_coordinate (h : Sim n κ a σ μ)
    (h1 : ndP (nbs n) k (fun u => ndP (nbs n) k2 (fun v => (r1, τ) = coF n σ u v) ((r1, τ) = (-1, σ))) ((r1, τ) = (-1, σ)))
    (h2 : ndP (nbs n) k (fun u => ndP (nbs n) k2 (fun v => (r2, ν) = mCoF n μ u v) ((r2, ν) = (-1, mC0 μ))) ((r2, ν) = (-1, mC0 μ))) : r1 = r2 ∧ Nxt n a τ ν :=
  nd_2 h1 h2 (fun _ hu e1 e2 => nd_2 e1 e2 (fun _ hv f1 f2 => op_pr ⟨(sim_co h hu hv).1, Nxt.of (sim_co h hu hv).2⟩ f1 f2) (op_no h)) (op_no h)
theorem op_passive (h : Sim n κ a σ μ) (h1 : ndP n k (fun i => (r1, τ) = paF σ i on) ((r1, τ) = (-1, σ))) (h2 : ndP n k (fun i => (r2, ν) = mPaF μ (i + 1) on) ((r2, ν) = (-1, mC0 μ))) : r1 = r2 ∧ Nxt n a τ ν :=
  nd_2 h1 h2 (fun _ hi e1 e2 => op_pr ⟨(sim_pa h hi).1, Nxt.of (sim_pa h hi).2⟩ e1 e2) (op_no h)
theorem op_never (h : Sim n κ a σ μ) (h1 : r1 = nvT σ n 0 x ∧ σ = τ) (h2 : r2 = mNvT (mC0 μ) x n 0 0 ∧ mC0 μ = ν) : r1 = r2 ∧ Nxt n a τ ν := by
  obtain ⟨e1, rfl⟩ := h1
  obtain ⟨e2, rfl⟩ := h2
  refine ⟨?_, Nxt.of (sim_c0 h)⟩
  have z := sim_nv (x := x) (sim_c0 h) n 0 0 (by omega)
  rw [Int32.sub_zero] at z
  rw [e1, e2, z]
theorem op_limp (hn : n ≤ 64) (ha : a < 2 ^ 30) (h : Sim n κ a σ μ) (h1 : ndP n k (fun i => (r1, τ) = liF n σ i t) ((r1, τ) = (-1, σ))) (h2 : ndP n k (fun i => (r2, ν) = mLiF n μ (i + 1) t) ((r2, ν) = (-1, mC0 μ))) : r1 = r2 ∧ Nxt n a τ ν :=
  nd_2 h1 h2 (fun _ hi e1 e2 => op_pr (by obtain ⟨z1, k2, a2, z2, z3⟩ := sim_li hn ha h hi; exact ⟨z1, k2, a2, z2, z3⟩) e1 e2) (op_no h)
theorem op_sleeps (h : Sim n κ a σ μ) (h1 : ((r1 = 1 ∧ slp n σ) ∨ (r1 = 0 ∧ ¬ slp n σ)) ∧ σ = τ) (h2 : ((r2 = 1 ∧ slpM n μ) ∨ (r2 = 0 ∧ ¬ slpM n μ)) ∧ mC0 μ = ν) : r1 = r2 ∧ Nxt n a τ ν := by
  obtain ⟨q1, rfl⟩ := h1
  obtain ⟨q2, rfl⟩ := h2
  refine ⟨?_, Nxt.of (sim_c0 h)⟩
  have hs := sim_slp h
  rcases q1 with ⟨y1, y2⟩ | ⟨y1, y2⟩ <;> rcases q2 with ⟨y3, y4⟩ | ⟨y3, y4⟩
  · rw [y1, y3]
  · exact absurd (hs.mp y2) y4
  · exact absurd (hs.mpr y4) y2
  · rw [y1, y3]
end OPS
section LX
variable {p : Program} {l : Launch} {e : Env} {R : Room} {s : State} {m : MethodId} {args : Array Value} {below : List Frame} {meth : Method} {c : Code} {H : Heap} {locs : List Loc} {cells slots : Nat} {Q : State → Prop}
variable {cc : ByteArray} {pc : Nat} {ls : Array Slot} {rest : List Value} {D : va_G} {tys : List (ClassId × FieldType)} {H0 : Heap} {K : List (Nat × Nat)} {ad : Nat × Nat → Nat}
variable {Sg : Type} {G : Sg → Nat × Nat → va_E} {σ : Sg} {y : MethodName} {bytes : ByteArray} {maxL nL n index : Nat} {rm : Room} {own C : String} {As : List Value} {Ts : List Cond} {A0 : Nat → Prop} {wb : va_W}
/-- a call on an object of one world, beside another world that stays -/
theorem lx_Vi {ret : Option FieldType} {post : Int32 → Sg → Prop} {κ : Nat × Nat} {ci : Nat} {fs : List Value} {T : u_T} {N : Nat} (hexec : p.tables.exec = Jvm.exec) (hb : c.code = cc) (hml : c.maxLocals = nL) (hown : s.vm.findClass own = some m.cls) (htT : ∀ w ∈ Ts, w.before args s = true) (hT : ∀ w ∈ kB_l, w ∈ Ts)
    (hM : Met l y (km y bytes maxL ret) rm (va_Pc (.ref (ad κ) :: As) (fun U => U.heap.size = H.size ∧ kB D tys K ad (G σ) U)) (va_Qi post (fun τ t => kB D tys K ad (G τ) t) (kA K ad H.size)) 0 0 (kA K ad H.size))
    (w1 : Cond.methodLink own index y ∈ kB_l) (w2 : Cond.instanceMethod y ∈ kB_l) (w3 : Cond.selects C y y ∈ kB_l) (w4 : Cond.initialized C ∈ kB_l) (w5 : Cond.code y bytes maxL ret ∈ kB_l)
    (hd : y.cls = C ∧ y.cls ≠ "java/lang/invoke/MethodHandle" ∧ y.cls ≠ "java/lang/invoke/VarHandle" ∧ (parseMethodDescriptor y.desc).map (fun d => d.parameters.length) = some n) (hrm : rm.cells = 0 ∧ rm.slots = 0) (hR : rm.frames + 1 ≤ R.frames ∧ 8 + (maxL + 11) + rm.locals ≤ R.locals)
    (hK : va_K D kCl tys s) (hP : va_P D kCl (kW K ad (G σ)) H) (hD : va_D A0 (kW K ad (G σ))) (hS : va_S A0 H0 H locs) (hA0 : ∀ q, H0.size ≤ q → A0 q) (hκ : κ ∈ K) (he : G σ κ = .inr (ci, fs)) (hc : kCl[ci]? = some (C, T, N)) (hPb : va_P D kCl wb H) (hap : ∀ (k : Nat) (q : Nat × va_E), wb[k]? = some q → ∀ κ, κ ∈ K → ad κ ≠ q.1)
    (hn : As.length = n) (hsize : ls.size = nL) (hW : (rest.map fun v => v.category).sum ≤ 8) (hdg : decode cc pc = .ok (.invokevirtual index, 3)) {st0 : List Value} (hstack : st0 = As.reverse ++ .ref (ad κ) :: rest) (hf : cells ≤ R.cells ∧ slots ≤ R.slots)
    (kk : ∀ (r : Int32) (τ : Sg) (H1 : Heap) (locs1 : List Loc), post r τ → va_P D kCl (kW K ad (G τ)) H1 → va_D A0 (kW K ad (G τ)) → va_P D kCl wb H1 → va_S A0 H0 H1 locs1 → W p l e R s m args below meth c H1 locs1 cells slots Q (F0 m (pc + 3) ls (.int r :: rest))) : W p l e R s m args below meth c H locs cells slots Q (F0 m pc ls st0) := by
  subst hstack
  obtain ⟨k0, -, h2⟩ := kW_at (ad := ad) (g := G σ) hκ
  rw [he] at h2
  have hin : ∀ κ, κ ∈ K → A0 (ad κ) := fun κ hκ => by
    obtain ⟨k1, -, h3⟩ := kW_at (ad := ad) (g := G σ) hκ
    exact hD.2 k1 _ h3
  have hsub : ∀ q : Nat, kA K ad H.size q → A0 q := fun q h => by
    rcases h with ⟨κ, h1, rfl⟩ | h
    · exact hin κ h1
    · exact hA0 q (Nat.le_trans hS.1 h)
  refine va_calli (va_runV (As := As) (rest := rest) ⟨hexec, hb, hml, hown, htT⟩ hM (cwV n htT (km_goodV hT w1 w2 w3 w4 w5) rfl hrm.1 hrm.2 hd hR) ⟨kB_blind _ _, va_recv hK hP hc h2, fun U hU hWm => ⟨rfl, by rw [hU], by rw [hU]; exact hP, va_K.moved hWm.alike hK, hD.weaken (fun _ _ _ _ => trivial)⟩⟩ rfl hn hsize rfl (lv_room hW) hdg hf) hS (fun q _ h => hsub q h) hsub (fun r τ t H1 locs1 ht hvm hw hB hz1 hk1 hS1 => ?_)
  obtain ⟨hP1, -, hD1⟩ := hB
  rw [ht] at hP1
  refine kk r τ H1 locs1 hw hP1 ⟨hD1.1, fun k q hq => ?_⟩ (hPb.kept (fun k q hq => hk1 q.1 ((hPb k q hq).lt) (fun z => ?_))) hS1
  · obtain ⟨κ2, h3, rfl⟩ := kW_mem hq
    exact hin κ2 h3
  · rcases z with ⟨κ2, h3, h4⟩ | h3
    · exact hap k q hq κ2 h3 h4
    · have := (hPb k q hq).lt
      omega
theorem lx_sld (hexec : p.tables.exec = Jvm.exec) (hb : c.code = cc) {b L i : Nat} {xs : Nat → Int32} (hX : va_X b L xs s H0) (hbl : b < H0.size) (hbA : ¬ A0 b) (hS : va_S A0 H0 H locs) {x : Int32} (hx : x = nI i) (hi : i < L) (hL : L < 2 ^ 31) (hdg : decode cc pc = .ok (.iaload, 1))
    (kk : W p l e R s m args below meth c H locs cells slots Q (F0 m (pc + 1) ls (.int (xs i) :: rest))) : W p l e R s m args below meth c H locs cells slots Q (F0 m pc ls (.int x :: .ref b :: rest)) := by
  subst hx
  refine va_sld hexec hb hX hbl hbA hS (vp_in_nI hi hL) hdg ?_
  rw [nI_clamp (by omega)]
  exact kk
end LX
/-- the script's cell k, or 0 -/
def cellV (L : Nat) (xs : Nat → Int32) : Int32 := if 0 < L then xs 0 else 0
set_option maxHeartbeats 4000000 in
set_option maxRecDepth 100000 in
theorem ct_L_cell (l : Launch) (b L : Nat) (xs : Nat → Int32) (hL : L < 2 ^ 31) : Met l ky_L_cell (km ky_L_cell kc_L_cell 2 (some .int)) ({ frames := 0, cells := 0, slots := 0, locals := 0 }) (va_Pc [.ref b, .int 0] (fun U => va_X b L xs U U.heap ∧ b < U.heap.size)) (va_Qi (fun (r : Int32) (_ : Unit) => r = cellV L xs) (fun _ _ => True) (fun _ => False)) 0 0 (fun _ => False) := by
  refine Met.ofW (cc := kc_L_cell) (maxL := 2) (ret := (some .int)) (by decide) rfl ?_
  intro p e s m args below meth c s₁ B hml hv
  obtain ⟨rfl, hX, hbl⟩ := hv
  have hx := B.exec
  have hb := B.bytes
  have hr := B.returns
  have hlocks := B.notSynchronized
  have hS : va_S (fun _ => False) s.heap s.heap [] := va_S.rf
  have hbA : ¬ (fun _ : Nat => False) b := fun z => z
  have hl := lv_entry ([.ref b, .int 0]) (n := 2) (Nat.le_of_ble_eq_true rfl)
  rw [lg_entry_eq]
  generalize (lg_sl ([.ref b, .int 0]) ++ List.replicate (2 - (lg_sl ([.ref b, .int 0])).length) Slot.unset).toArray = ls at hl ⊢
  have hl : lv_has ls 2 [(0, .ref b), (1, .int 0)] := hl
  refine lv_iload_n hx hb kd_L_cell_0 rfl (lv_at hl 1 rfl) ?_
  refine lv_aload_n hx hb kd_L_cell_1 rfl (lv_at hl 0 rfl) ?_
  refine va_slen hx hb hX hbl hbA hS kd_L_cell_2 ?_
  refine lv_icmp_ge (tgt := 12) hx hb kd_L_cell_3 (by decide) (fun c1 => ?_) (fun c1 => ?_)
  · refine lv_iconst (v := 0) hx hb kd_L_cell_12 (by decide) ?_
    have h0 : L = 0 := by
      rcases Nat.eq_zero_or_pos L with z | z
      · exact z
      · exact absurd c1 (nI_ge (a := 0) z hL)
    exact W.iret (v := 0) hx hb hr (fun t ht hW => ⟨⟨0, (), rfl, by unfold cellV; rw [if_neg (by omega)], trivial⟩, hS.F ht⟩) hS.2.2 kd_L_cell_13
  · have h0 : 0 < L := by
      rcases Nat.eq_zero_or_pos L with z | z
      · exact absurd (by rw [z]; exact Int32.le_refl _) c1
      · exact z
    refine lv_aload_n hx hb kd_L_cell_6 rfl (lv_at hl 0 rfl) ?_
    refine lv_iload_n hx hb kd_L_cell_7 rfl (lv_at hl 1 rfl) ?_
    refine lx_sld (i := 0) hx hb hX hbl hbA hS rfl h0 hL kd_L_cell_8 ?_
    refine lv_goto (tgt := 13) hx hb kd_L_cell_9 (by decide) ?_
    exact W.iret (v := xs 0) hx hb hr (fun t ht hW => ⟨⟨xs 0, (), rfl, by unfold cellV; rw [if_pos h0], trivial⟩, hS.F ht⟩) hS.2.2 kd_L_cell_13
