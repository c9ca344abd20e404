/-! coordinate, on both sides -/
theorem if_in {g x y : Int32} (h : g = x ∨ g = y) : (if g = y then x else g) = x := by
  by_cases c : g = y
  · rw [if_pos c]
  · rw [if_neg c]; exact h.resolve_right c
theorem if_out {g x y : Int32} (h : ¬ (g = x ∨ g = y)) : (if g = y then x else g) = g := if_neg (fun c => h (Or.inr c))
theorem part_cnt {gc x y mc lo hi : Int32} (hc : (gc = x ∨ gc = y) ↔ (mc = lo ∨ mc = hi)) : ((if gc = y then x else gc) = x) ↔ ((if mc = hi then lo else mc) = lo) := by
  by_cases c : gc = x ∨ gc = y
  · rw [if_in c, if_in (hc.mp c)]
    exact ⟨fun _ => rfl, fun _ => rfl⟩
  · rw [if_out c, if_out (fun z => c (hc.mpr z))]
    exact ⟨fun z => absurd (Or.inl z) c, fun z => absurd (hc.mpr (Or.inl z)) c⟩
theorem part_eq {gc gd x y mc md lo hi : Int32} (hc : (gc = x ∨ gc = y) ↔ (mc = lo ∨ mc = hi)) (hd : (gd = x ∨ gd = y) ↔ (md = lo ∨ md = hi)) (hcd : gc = gd ↔ mc = md) : ((if gc = y then x else gc) = (if gd = y then x else gd)) ↔ ((if mc = hi then lo else mc) = (if md = hi then lo else md)) := by
  by_cases c : gc = x ∨ gc = y <;> by_cases d : gd = x ∨ gd = y
  · rw [if_in c, if_in d, if_in (hc.mp c), if_in (hd.mp d)]
    exact ⟨fun _ => rfl, fun _ => rfl⟩
  · rw [if_in c, if_out d, if_in (hc.mp c), if_out (fun z => d (hd.mpr z))]
    exact ⟨fun z => absurd (Or.inl z.symm) d, fun z => absurd (hd.mpr (Or.inl z.symm)) d⟩
  · rw [if_out c, if_in d, if_out (fun z => c (hc.mpr z)), if_in (hd.mp d)]
    exact ⟨fun z => absurd (Or.inl z) c, fun z => absurd (hc.mpr (Or.inl z)) c⟩
  · rw [if_out c, if_out d, if_out (fun z => c (hc.mpr z)), if_out (fun z => d (hd.mpr z))]
    exact hcd
theorem coL_e (x y : Int32) (σ : CS) (k : Nat) : (coL x y σ k).1.1 = σ.1 ∧ (coL x y σ k).1.2.2 = σ.2.2 ∧ ∀ b, (coL x y σ k).1.2.1 b = (if b < k then (if (σ.2.1 b).1 = y then x else (σ.2.1 b).1) else (σ.2.1 b).1, (σ.2.1 b).2) := by
  induction k with
  | zero => exact ⟨rfl, rfl, fun b => rfl⟩
  | succ k ih =>
    obtain ⟨e1, e2, e3⟩ := ih
    have ek := e3 k
    rw [if_neg (by omega)] at ek
    rw [coL]
    dsimp only
    rw [ek]
    dsimp only
    by_cases c : (σ.2.1 k).1 = y
    · rw [if_pos c]
      refine ⟨e1, e2, fun b => ?_⟩
      by_cases hb : b = k
      · subst hb
        simp [setB, va_up, c]
      · have : (b < k + 1) = (b < k) := by apply propext; omega
        simp only [setB, va_up, hb, if_false, this]
        exact e3 b
    · rw [if_neg c]
      refine ⟨e1, e2, fun b => ?_⟩
      by_cases hb : b = k
      · subst hb
        rw [ek]
        simp [c]
      · have : (b < k + 1) = (b < k) := by apply propext; omega
        simp only [this]
        exact e3 b
theorem mCoL_e (lo hi : Int32) (σ : MS) (k : Nat) : (mCoL lo hi σ k).1.1 = σ.1 ∧ (mCoL lo hi σ k).1.2.2 = σ.2.2 ∧ ∀ b, (mCoL lo hi σ k).1.2.1 (b + 1) = (if b < k then (if σ.2.1 (b + 1) = hi then lo else σ.2.1 (b + 1)) else σ.2.1 (b + 1)) := by
  induction k with
  | zero => exact ⟨rfl, rfl, fun b => rfl⟩
  | succ k ih =>
    obtain ⟨e1, e2, e3⟩ := ih
    have ek := e3 k
    rw [if_neg (by omega)] at ek
    rw [mCoL]
    dsimp only
    rw [ek]
    refine ⟨e1, e2, fun b => ?_⟩
    by_cases hb : b = k
    · subst hb
      simp [upd]
    · have : (b < k + 1) = (b < k) := by apply propext; omega
      have hb2 : ¬ b + 1 = k + 1 := by omega
      simp only [upd, hb2, if_false, this]
      exact e3 b
theorem sim_coL {n : Nat} {x y lo hi : Int32} {σ : CS} {μ : MS} (hS : ∀ c, c < nbs n → (((σ.2.1 c).1 = x ∨ (σ.2.1 c).1 = y) ↔ (μ.2.1 (c + 1) = lo ∨ μ.2.1 (c + 1) = hi))) : ∀ k, k ≤ nbs n → (coL x y σ k).2 = (mCoL lo hi μ k).2 := by
  intro k
  induction k with
  | zero => intro _; rfl
  | succ k ih =>
    intro hk
    have e := ih (by omega)
    have a := (coL_e x y σ (k + 1)).2.2 k
    have b := (mCoL_e lo hi μ (k + 1)).2.2 k
    rw [if_pos (by omega)] at a b
    have ra : (coL x y σ (k + 1)).2 = if ((coL x y σ (k + 1)).1.2.1 k).1 = x then (coL x y σ k).2 + 1 else (coL x y σ k).2 := rfl
    have rb : (mCoL lo hi μ (k + 1)).2 = if (mCoL lo hi μ (k + 1)).1.2.1 (k + 1) = lo then (mCoL lo hi μ k).2 + 1 else (mCoL lo hi μ k).2 := rfl
    rw [ra, rb, a, b, e]
    dsimp only
    have pc := part_cnt (hS k (by omega))
    by_cases c : (if (σ.2.1 k).1 = y then x else (σ.2.1 k).1) = x
    · rw [if_pos c, if_pos (pc.mp c)]
    · rw [if_neg c, if_neg (fun z => c (pc.mpr z))]
theorem sim_co {n a : Nat} {k : Int32} {σ : CS} {μ : MS} {u v : Nat} (h : Sim n k a σ μ) (hu : u < nbs n) (hv : v < nbs n) : (coF n σ u v).1 = (mCoF n μ u v).1 ∧ Sim n k a (coF n σ u v).2 (mCoF n μ u v).2 := by
  have h0 := sim_c0 h
  unfold coF mCoF
  dsimp only
  generalize mC0 μ = ν at h0 ⊢
  obtain ⟨hN, hB, hA, ht, hm, hc⟩ := h0
  by_cases e : u = v
  · rw [if_pos e, if_pos e]
    exact ⟨rfl, hN, hB, hA, ht, hm, hc⟩
  · rw [if_neg e, if_neg e]
    dsimp only
    have key : ∀ lo hi : Int32, (∀ z : Int32, (z = lo ∨ z = hi) ↔ (z = ν.2.1 (u + 1) ∨ z = ν.2.1 (v + 1))) → (coL (σ.2.1 u).1 (σ.2.1 v).1 σ (nbs n)).2 = (mCoL lo hi ν (nbs n)).2 ∧ Sim n k a (coL (σ.2.1 u).1 (σ.2.1 v).1 σ (nbs n)).1 (mCoL lo hi ν (nbs n)).1 := by
      intro lo hi hl
      have hS : ∀ c, c < nbs n → (((σ.2.1 c).1 = (σ.2.1 u).1 ∨ (σ.2.1 c).1 = (σ.2.1 v).1) ↔ (ν.2.1 (c + 1) = lo ∨ ν.2.1 (c + 1) = hi)) := by
        intro c hcn
        rw [hl, hB.1 c u hcn hu, hB.1 c v hcn hv]
      refine ⟨sim_coL hS _ (Nat.le_refl _), ?_⟩
      obtain ⟨a1, a2, a3⟩ := coL_e (σ.2.1 u).1 (σ.2.1 v).1 σ (nbs n)
      obtain ⟨b1, b2, b3⟩ := mCoL_e lo hi ν (nbs n)
      refine ⟨by rw [a1, b1]; exact hN, ⟨fun b c hb hcn => ?_, fun b q hb hq => ?_⟩, fun b hb => ?_, by rw [a2]; exact ht, by rw [b2]; exact hm, by rw [a2, b2]; exact hc⟩
      · rw [a3, a3, b3, b3, if_pos hb, if_pos hcn, if_pos hb, if_pos hcn]
        exact part_eq (hS b hb) (hS c hcn) (hB.1 b c hb hcn)
      · rw [a3, b2]
        exact hB.2 b q hb hq
      · rw [a3, a1]
        exact hA b hb
    by_cases g : ν.2.1 (u + 1) ≥ ν.2.1 (v + 1)
    · rw [if_pos g, if_pos g]
      exact key _ _ (fun z => ⟨fun y => y.symm, fun y => y.symm⟩)
    · rw [if_neg g, if_neg g]
      exact key _ _ (fun z => Iff.rfl)
/-! the bits that stand, counted on both sides -/
def pq1 (M x : Nat) : Nat := x - ((x / 2) &&& M)
def pq2 (M x : Nat) : Nat := (x &&& M) + ((x / 4) &&& M)
def pq3 (M x : Nat) : Nat := (x + x / 16) &&& M
theorem and8 {A B a b : Nat} (ha : a < 256) (hb : b < 256) : (256 * A + a) &&& (256 * B + b) = 256 * (A &&& B) + (a &&& b) := by
  have hab : a &&& b < 2 ^ 8 := Nat.lt_of_le_of_lt Nat.and_le_left (by omega)
  apply Nat.eq_of_testBit_eq
  intro i
  rw [Nat.testBit_and, show 256 = 2 ^ 8 from rfl, Nat.testBit_two_pow_mul_add A (by omega) i, Nat.testBit_two_pow_mul_add B (by omega) i, Nat.testBit_two_pow_mul_add _ hab i]
  by_cases h : i < 8
  · simp only [if_pos h, Nat.testBit_and]
  · simp only [if_neg h, Nat.testBit_and]
theorem pq1_d : ∀ B, B < 256 → ∀ r, r < 2 → (128 * r + B / 2) &&& 85 = (B / 2) &&& 85 := by decide +kernel
theorem pq2_d : ∀ B, B < 256 → ∀ r, r < 4 → (64 * r + B / 4) &&& 51 = (B / 4) &&& 51 := by decide +kernel
theorem pq3_d : ∀ B, B < 69 → ∀ r, r < 5 → (B + 16 * r + B / 16) &&& 15 = (B + B / 16) &&& 15 := by decide +kernel
theorem pq1_s {M A B : Nat} (hB : B < 256) : pq1 (256 * M + 85) (256 * A + B) = 256 * pq1 M A + pq1 85 B := by
  unfold pq1
  have e : (256 * A + B) / 2 = 256 * (A / 2) + (128 * (A % 2) + B / 2) := by omega
  rw [e, and8 (by omega) (by omega), pq1_d B hB (A % 2) (by omega)]
  have h1 : (A / 2) &&& M ≤ A / 2 := Nat.and_le_left
  have h2 : (B / 2) &&& 85 ≤ B / 2 := Nat.and_le_left
  omega
theorem pq2_s {M A B : Nat} (hB : B < 256) : pq2 (256 * M + 51) (256 * A + B) = 256 * pq2 M A + pq2 51 B := by
  unfold pq2
  have e : (256 * A + B) / 4 = 256 * (A / 4) + (64 * (A % 4) + B / 4) := by omega
  rw [e, and8 hB (by omega), and8 (by omega) (by omega), pq2_d B hB (A % 4) (by omega)]
  omega
theorem pq3_s {M A B : Nat} (hB : B < 69) (hA : A % 16 < 5) : pq3 (256 * M + 15) (256 * A + B) = 256 * pq3 M A + pq3 15 B := by
  unfold pq3
  have e : 256 * A + B + (256 * A + B) / 16 = 256 * (A + A / 16) + (B + 16 * (A % 16) + B / 16) := by omega
  rw [e, and8 (by omega) (by omega), pq3_d B hB (A % 16) hA]
def popN (N : Nat) : Nat → Nat
  | 0 => 0
  | k + 1 => popN N k + N / 2 ^ k % 2
theorem pq_b : ∀ B, B < 256 → pq3 15 (pq2 51 (pq1 85 B)) = popN B 8 ∧ popN B 8 ≤ 8 ∧ pq2 51 (pq1 85 B) < 69 ∧ pq2 51 (pq1 85 B) % 16 < 5 ∧ pq1 85 B < 256 := by decide +kernel
theorem popN_8 {A B : Nat} (hB : B < 256) : ∀ k, popN (256 * A + B) (8 + k) = popN B 8 + popN A k := by
  intro k
  induction k with
  | zero =>
    show popN (256 * A + B) 8 = popN B 8 + 0
    simp only [popN]
    omega
  | succ k ih =>
    show popN (256 * A + B) (8 + k) + (256 * A + B) / 2 ^ (8 + k) % 2 = popN B 8 + (popN A k + A / 2 ^ k % 2)
    rw [ih, Nat.pow_add, ← Nat.div_div_eq_div_mul, show (256 * A + B) / 2 ^ 8 = A by omega]
    omega
def tn (x : Int32) : Nat := x.toBitVec.toNat
theorem tn_lt (x : Int32) : tn x < 2 ^ 32 := x.toBitVec.isLt
theorem tn_and (x y : Int32) : tn (x &&& y) = tn x &&& tn y := by unfold tn; rw [Int32.toBitVec_and, BitVec.toNat_and]
theorem tn_add (x y : Int32) (h : tn x + tn y < 2 ^ 32) : tn (x + y) = tn x + tn y := by
  unfold tn at *
  rw [Int32.toBitVec_add, BitVec.toNat_add]
  exact Nat.mod_eq_of_lt h
theorem tn_sub (x y : Int32) (h : tn y ≤ tn x) : tn (x - y) = tn x - tn y := by
  unfold tn at *
  rw [Int32.toBitVec_sub, BitVec.toNat_sub_of_le (by rw [BitVec.le_def]; exact h)]
theorem tn_ush (x s : Int32) (k : Nat) (hs : ((s.toUInt32 &&& Int32.toUInt32 31).toBitVec % 32).toNat = k) : tn (ush x s) = tn x / 2 ^ k := pk_ushr x s k hs
theorem tn_nI {n : Nat} (h : n < 2 ^ 32) : tn (nI n) = n := pk_tn h
theorem tn_inj {x y : Int32} (h : tn x = tn y) : x = y := Int32.toBitVec_inj.mp (BitVec.eq_of_toNat_eq h)
theorem bil_e (x : Int32) : ∀ k, k ≤ 32 → mBiL x k = nI (popN (tn x) k) := by
  intro k
  induction k with
  | zero => intro _; rfl
  | succ k ih =>
    intro hk
    rw [mBiL, ih (by omega), bt_s x (by omega)]
    have e : (if bt x k = true then (1 : Int32) else 0) = nI (tn x / 2 ^ k % 2) := by
      have hb : bt x k = decide (tn x / 2 ^ k % 2 = 1) := by
        unfold bt tn
        rw [BitVec.getLsbD, Nat.testBit_eq_decide_div_mod_eq]
      rw [hb]
      rcases (show tn x / 2 ^ k % 2 = 0 ∨ tn x / 2 ^ k % 2 = 1 by omega) with z | z <;> rw [z] <;> rfl
    rw [e, nI_add]
    rfl
theorem pop_fin {c0 c1 c2 c3 : Nat} (h0 : c0 ≤ 8) (h1 : c1 ≤ 8) (h2 : c2 ≤ 8) (h3 : c3 ≤ 8) : (256 * (256 * (256 * c3 + c2) + c1) + c0 + (256 * (256 * (256 * c3 + c2) + c1) + c0) / 256 + (256 * (256 * (256 * c3 + c2) + c1) + c0 + (256 * (256 * (256 * c3 + c2) + c1) + c0) / 256) / 65536) % 64 = c0 + (c1 + (c2 + c3)) := by
  have e1 : (256 * (256 * (256 * c3 + c2) + c1) + c0) / 256 = 256 * (256 * c3 + c2) + c1 := by omega
  rw [e1]
  have e2 : (256 * (256 * (256 * c3 + c2) + c1) + c0 + (256 * (256 * c3 + c2) + c1)) / 65536 = 256 * c3 + (c2 + c3) := by omega
  rw [e2]
  have e3 : 256 * (256 * (256 * c3 + c2) + c1) + c0 + (256 * (256 * c3 + c2) + c1) + (256 * c3 + (c2 + c3)) = 64 * (4 * (256 * (256 * c3 + c2) + c1) + 4 * (256 * c3 + c2) + 4 * c3) + (c0 + (c1 + (c2 + c3))) := by omega
  rw [e3, Nat.mul_add_mod]
  exact Nat.mod_eq_of_lt (by omega)
theorem bc_eq (x : Int32) : bcF x = mBiL x 32 := by
  rw [bil_e x 32 (Nat.le_refl 32)]
  unfold bcF
  dsimp only
  have hN := tn_lt x
  obtain ⟨B0, h0⟩ : ∃ B, B = tn x % 256 := ⟨_, rfl⟩
  obtain ⟨B1, h1⟩ : ∃ B, B = tn x / 256 % 256 := ⟨_, rfl⟩
  obtain ⟨B2, h2⟩ : ∃ B, B = tn x / 65536 % 256 := ⟨_, rfl⟩
  obtain ⟨B3, h3⟩ : ∃ B, B = tn x / 16777216 := ⟨_, rfl⟩
  have b0 : B0 < 256 := by omega
  have b1 : B1 < 256 := by omega
  have b2 : B2 < 256 := by omega
  have b3 : B3 < 256 := by omega
  have hx : tn x = 256 * (256 * (256 * B3 + B2) + B1) + B0 := by omega
  obtain ⟨p0, l0, q0, r0, s0⟩ := pq_b B0 b0
  obtain ⟨p1, l1, q1, r1, s1⟩ := pq_b B1 b1
  obtain ⟨p2, l2, q2, r2, s2⟩ := pq_b B2 b2
  obtain ⟨p3, l3, q3, r3, s3⟩ := pq_b B3 b3
  have hpop : popN (tn x) 32 = popN B0 8 + (popN B1 8 + (popN B2 8 + popN B3 8)) := by
    rw [hx, show 32 = 8 + (8 + (8 + 8)) from rfl, popN_8 b0, popN_8 b1, popN_8 b2]
  -- the first step
  have ea : tn (x - (ush x 1 &&& 1431655765)) = 256 * (256 * (256 * pq1 85 B3 + pq1 85 B2) + pq1 85 B1) + pq1 85 B0 := by
    have e1 : tn (ush x 1 &&& 1431655765) = (tn x / 2) &&& 1431655765 := by
      rw [tn_and, tn_ush x 1 1 (by decide)]
      rfl
    have le : (tn x / 2) &&& 1431655765 ≤ tn x / 2 := Nat.and_le_left
    rw [tn_sub _ _ (by rw [e1]; omega), e1]
    show pq1 1431655765 (tn x) = _
    rw [hx, show 1431655765 = 256 * (256 * (256 * 85 + 85) + 85) + 85 from rfl, pq1_s b0, pq1_s b1, pq1_s b2]
  generalize x - (ush x 1 &&& 1431655765) = a at ea ⊢
  have eb : tn ((a &&& 858993459) + (ush a 2 &&& 858993459)) = 256 * (256 * (256 * pq2 51 (pq1 85 B3) + pq2 51 (pq1 85 B2)) + pq2 51 (pq1 85 B1)) + pq2 51 (pq1 85 B0) := by
    have e1 : tn (a &&& 858993459) = tn a &&& 858993459 := by rw [tn_and]; rfl
    have e2 : tn (ush a 2 &&& 858993459) = (tn a / 4) &&& 858993459 := by
      rw [tn_and, tn_ush a 2 2 (by decide)]
      rfl
    have l1 : tn a &&& 858993459 ≤ 858993459 := Nat.and_le_right
    have l2 : (tn a / 4) &&& 858993459 ≤ 858993459 := Nat.and_le_right
    rw [tn_add _ _ (by rw [e1, e2]; omega), e1, e2]
    show pq2 858993459 (tn a) = _
    rw [ea, show 858993459 = 256 * (256 * (256 * 51 + 51) + 51) + 51 from rfl, pq2_s s0, pq2_s s1, pq2_s s2]
  generalize (a &&& 858993459) + (ush a 2 &&& 858993459) = b at eb ⊢
  have ec : tn ((b + ush b 4) &&& 252645135) = 256 * (256 * (256 * popN B3 8 + popN B2 8) + popN B1 8) + popN B0 8 := by
    have e1 : tn (ush b 4) = tn b / 16 := tn_ush b 4 4 (by decide)
    have lb : tn b < 2 ^ 31 := by rw [eb]; omega
    rw [tn_and, tn_add _ _ (by rw [e1]; omega), e1]
    show pq3 252645135 (tn b) = _
    rw [eb, show 252645135 = 256 * (256 * (256 * 15 + 15) + 15) + 15 from rfl, pq3_s q0 (by omega), pq3_s q1 (by omega), pq3_s q2 (by omega), p0, p1, p2, p3]
  generalize (b + ush b 4) &&& 252645135 = c at ec ⊢
  have ed : tn (c + ush c 8) = tn c + tn c / 256 := by
    have e1 : tn (ush c 8) = tn c / 256 := tn_ush c 8 8 (by decide)
    rw [tn_add _ _ (by rw [e1, ec]; omega), e1]
  generalize c + ush c 8 = d at ed ⊢
  have ee : tn (d + ush d 16) = tn d + tn d / 65536 := by
    have e1 : tn (ush d 16) = tn d / 65536 := tn_ush d 16 16 (by decide)
    rw [tn_add _ _ (by rw [e1, ed, ec]; omega), e1]
  generalize d + ush d 16 = f at ee ⊢
  apply tn_inj
  have e9 : tn (f &&& 63) = tn f % 64 := by
    rw [tn_and]
    exact Nat.and_two_pow_sub_one_eq_mod (tn f) 6
  show tn (f &&& 63) = _
  rw [e9, tn_nI (by rw [hpop]; omega), hpop, ee, ed, ec]
  exact pop_fin l0 l1 l2 l3
