/-! the class beside the reference: what holds between their states -/
/-- how many of the first m nodes on a bus keep awake -/
def cA (f : Nat → NV) (b : Nat) : Nat → Nat
  | 0 => 0
  | m + 1 => cA f b m + (if m / 8 = b ∧ awk (f m).1 then 1 else 0)
/-- a node of the class and one of the reference, at time a -/
def NR (a : Nat) (x : NV) (y : MV) : Prop :=
  (x.1 = y.1 ∧ x.2.2.2.2.1 = y.2.1 ∧ x.2.2.2.2.2.1 = y.2.2.1 ∧ x.2.2.2.2.2.2.1 = y.2.2.2.1 ∧ x.2.2.2.2.2.2.2 = y.2.2.2.2.1) ∧
  (x.1 = 0 ∨ x.1 = 1 ∨ x.1 = 2 ∨ x.1 = 3 ∨ x.1 = 4) ∧ (¬ x.2.2.2.2.2.2.1 = 0 → x.1 = 0 ∧ x.2.2.2.2.1 = 0) ∧
  (¬ x.1 = 0 → x.2.1 = y.2.2.2.2.2.1 ∧ x.2.2.1 = y.2.2.2.2.2.2.1 ∧ ∃ z, z ≤ a ∧ ((y.2.2.2.2.2.2.2.2.1 = 0 ∧ y.2.2.2.2.2.2.2.1 = lN z ∧ x.2.2.2.1 = lN (z + 3)) ∨ (¬ y.2.2.2.2.2.2.2.2.1 = 0 ∧ y.2.2.2.2.2.2.2.2.2 = lN z ∧ x.2.2.2.1 = lN (z + 1))))
def SN (n a : Nat) (f : Nat → NV) (g : Nat → MV) : Prop := ∀ i, i < n → NR a (f i) (g (i + 1))
def SB (n : Nat) (B : Nat → BV) (nm : Nat → Int32) (ca : Nat → Int64) (ev : Nat → Int32) : Prop :=
  (∀ b c, b < nbs n → c < nbs n → ((B b).1 = (B c).1 ↔ nm (b + 1) = nm (c + 1))) ∧
  (∀ b q, b < 8 → q < 32 → (ev (32 * (b + 1) + q) = 0 ∧ (b < nbs n → (B b).2.2 q = -1000)) ∨ (¬ ev (32 * (b + 1) + q) = 0 ∧ b < nbs n ∧ (B b).2.2 q = ca (32 * (b + 1) + q)))
def SA (n : Nat) (f : Nat → NV) (B : Nat → BV) : Prop := ∀ b, b < nbs n → (B b).2.1 = nI (cA f b n)
def Sim (n : Nat) (k : Int32) (a : Nat) (σ : CS) (μ : MS) : Prop :=
  SN n a σ.1 μ.1 ∧ SB n σ.2.1 μ.2.1 μ.2.2.1 μ.2.2.2.1 ∧ SA n σ.1 σ.2.1 ∧ σ.2.2.1 = lN a ∧ μ.2.2.2.2.1 = lN a ∧ σ.2.2.2 = μ.2.2.2.2.2.1 + k
theorem cA_up {f : Nat → NV} {b i : Nat} {v : NV} (m : Nat) : cA (va_up f i v) b m + (if i < m ∧ i / 8 = b ∧ awk (f i).1 then 1 else 0) = cA f b m + (if i < m ∧ i / 8 = b ∧ awk v.1 then 1 else 0) := by
  induction m with
  | zero => simp [cA]
  | succ m ih =>
    unfold cA
    by_cases h : m = i
    · subst h
      have e : va_up f m v m = v := va_up_self f m v
      rw [e]
      have h1 : ¬ m < m := by omega
      simp only [h1, false_and, if_false, Nat.add_zero] at ih
      rw [ih]
      have h2 : m < m + 1 := by omega
      simp only [h2, true_and]
      omega
    · have e : va_up f i v m = f m := va_up_ne f v h
      rw [e]
      have h2 : (i < m + 1) = (i < m) := by apply propext; omega
      simp only [h2]
      omega
theorem cA_keep {f : Nat → NV} {b i : Nat} {v : NV} (m : Nat) (h : awk v.1 ↔ awk (f i).1) : cA (va_up f i v) b m = cA f b m := by
  have := cA_up (f := f) (b := b) (i := i) (v := v) m
  by_cases c : awk (f i).1
  · have c2 := h.mpr c
    simp only [c, c2, and_true] at this
    omega
  · have c2 : ¬ awk v.1 := fun z => c (h.mp z)
    simp only [c, c2, and_false, if_false] at this
    omega
theorem cA_0 {f : Nat → NV} {b : Nat} (m : Nat) : cA f b m = 0 ↔ ∀ i, i < m → i / 8 = b → ¬ awk (f i).1 := by
  induction m with
  | zero => simp [cA]
  | succ m ih =>
    unfold cA
    constructor
    · intro h i hi hb hw
      rcases Nat.lt_or_ge i m with z | z
      · exact (ih.mp (by omega)) i z hb hw
      · have : i = m := by omega
        subst this
        rw [if_pos ⟨hb, hw⟩] at h
        omega
    · intro h
      rw [ih.mpr (fun i hi => h i (by omega)), if_neg (fun z => h m (by omega) z.1 z.2)]
theorem cA_le {f : Nat → NV} {b : Nat} (m : Nat) : cA f b m ≤ m := by
  induction m with
  | zero => exact Nat.le_refl 0
  | succ m ih => unfold cA; split <;> omega
theorem SN.up {n a : Nat} {f : Nat → NV} {g : Nat → MV} (h : SN n a f g) {i : Nat} {x : NV} {y : MV} (hr : NR a x y) : SN n a (va_up f i x) (va_up g (i + 1) y) := by
  intro j hj
  by_cases e : j = i
  · subst e
    rw [va_up_self, va_up_self]
    exact hr
  · rw [va_up_ne f x e, va_up_ne g y (by omega)]
    exact h j hj
theorem SA.up {n : Nat} {f : Nat → NV} {B : Nat → BV} (h : SA n f B) {i : Nat} {v : NV} (hk : awk v.1 ↔ awk (f i).1) : SA n (va_up f i v) B := fun b hb => by rw [cA_keep n hk]; exact h b hb
theorem NR.mono {a a2 : Nat} {x : NV} {y : MV} (h : NR a x y) (ha : a ≤ a2) : NR a2 x y := by
  obtain ⟨h1, h2, h3, h4⟩ := h
  exact ⟨h1, h2, h3, fun z => by obtain ⟨e1, e2, w, hw, e3⟩ := h4 z; exact ⟨e1, e2, w, by omega, e3⟩⟩
/-! what the steps do -/
theorem cmT_n (σ : CS) (i : Nat) (x : Int32) : (cmT σ i x).1 = va_up σ.1 i (x, σ.2.2.1, (σ.1 i).2.2) := by
  unfold cmT
  dsimp only
  split <;> split <;> simp only [setN, setB, va_up_up, va_up_self]
theorem cmT_ch (σ : CS) (i : Nat) (x : Int32) : (cmT σ i x).2.2.2 = σ.2.2.2 + 1 := by
  unfold cmT
  dsimp only
  split <;> split <;> rfl
theorem cmT_b (σ : CS) (i : Nat) (x : Int32) (b : Nat) : (cmT σ i x).2.1 b = ((σ.2.1 b).1, (if b = i / 8 then (σ.2.1 b).2.1 - (if awk (σ.1 i).1 then 1 else 0) + (if awk x then 1 else 0) else (σ.2.1 b).2.1), (σ.2.1 b).2.2) := by
  unfold cmT
  dsimp only
  by_cases hb : b = i / 8
  · subst hb
    by_cases h1 : awk (σ.1 i).1 <;> by_cases h2 : awk x <;> simp [h1, h2, setN, setB, va_up]
  · by_cases h1 : awk (σ.1 i).1 <;> by_cases h2 : awk x <;> simp [h1, h2, setN, setB, va_up, hb]
theorem mBec_n (σ : MS) (v : Nat) (x : Int32) : (mBec σ v x).1 = va_up σ.1 v (x, (σ.1 v).2.1, (σ.1 v).2.2.1, (σ.1 v).2.2.2.1, (σ.1 v).2.2.2.2.1, σ.2.2.2.2.1, (σ.1 v).2.2.2.2.2.2) := by
  unfold mBec
  simp only [setM, va_up_up, va_up_self]
theorem nI_dec {c o w : Nat} (ho : o ≤ c + w) (hw : w ≤ 1) (ho1 : o ≤ 1) : nI c - (if o = 1 then 1 else 0) + (if w = 1 then 1 else 0) = nI (c + w - o) := by
  rcases (show o = 0 ∨ o = 1 by omega) with rfl | rfl <;> rcases (show w = 0 ∨ w = 1 by omega) with rfl | rfl
  · simp
  · simp [nI_1]
  · obtain ⟨c, rfl⟩ : ∃ d, c = d + 1 := ⟨c - 1, by omega⟩
    simp [nI_pred]
  · simp
/-- a node comes to another state, on both sides -/
theorem SA_cm {n : Nat} {σ : CS} {i : Nat} {x : Int32} (hi : i < n) (h : SA n σ.1 σ.2.1) : SA n (cmT σ i x).1 (cmT σ i x).2.1 := by
  intro b hb
  rw [cmT_n, cmT_b]
  have hc := cA_up (f := σ.1) (b := b) (i := i) (v := (x, σ.2.2.1, (σ.1 i).2.2)) n
  have hB := h b hb
  dsimp only
  by_cases e : b = i / 8
  · rw [if_pos e, hB]
    by_cases h1 : awk (σ.1 i).1 <;> by_cases h2 : awk x
    · simp only [h1, h2, hi, e, true_and, if_true] at hc ⊢
      rw [show cA (va_up σ.1 i (x, σ.2.2.1, (σ.1 i).2.2)) (i / 8) n = cA σ.1 (i / 8) n by omega]
      simp
    · simp only [h1, h2, hi, e, true_and, if_true, if_false] at hc ⊢
      rw [show cA σ.1 (i / 8) n = cA (va_up σ.1 i (x, σ.2.2.1, (σ.1 i).2.2)) (i / 8) n + 1 by omega, nI_pred]
      simp
    · simp only [h1, h2, hi, e, true_and, if_true, if_false] at hc ⊢
      rw [show cA (va_up σ.1 i (x, σ.2.2.1, (σ.1 i).2.2)) (i / 8) n = cA σ.1 (i / 8) n + 1 by omega, nI_succ]
      simp
    · simp only [h1, h2, hi, e, true_and, if_false] at hc ⊢
      rw [show cA (va_up σ.1 i (x, σ.2.2.1, (σ.1 i).2.2)) (i / 8) n = cA σ.1 (i / 8) n by omega]
      simp
  · have e2 : ¬ i / 8 = b := fun z => e z.symm
    simp only [e2, false_and, and_false, if_false] at hc
    rw [if_neg e, hB, show cA (va_up σ.1 i (x, σ.2.2.1, (σ.1 i).2.2)) b n = cA σ.1 b n by omega]
theorem SB_cm {n : Nat} {σ : CS} {i : Nat} {x : Int32} {nm : Nat → Int32} {ca : Nat → Int64} {ev : Nat → Int32} (h : SB n σ.2.1 nm ca ev) : SB n (cmT σ i x).2.1 nm ca ev := by
  refine ⟨fun b c hb hc => ?_, fun b q hb hq => ?_⟩
  · rw [cmT_b, cmT_b]
    exact h.1 b c hb hc
  · rw [cmT_b]
    exact h.2 b q hb hq
/-- a node that does not sleep, or that falls asleep -/
theorem sim_cm {n a : Nat} {k : Int32} {σ : CS} {μ : MS} {i : Nat} {x : Int32} (h : Sim n k a σ μ) (hi : i < n) (hx : x = 0 ∨ x = 1 ∨ x = 2 ∨ x = 3 ∨ x = 4) (ho : x = 0 ∨ ¬ (σ.1 i).1 = 0) (ho2 : ¬ (σ.1 i).2.2.2.2.2.2.1 = 0 → (σ.1 i).2.2.2.2.1 = 0 ∧ x = 0) : Sim n k a (cmT σ i x) (mBec μ (i + 1) x) := by
  obtain ⟨hN, hB, hA, ht, hm, hc⟩ := h
  obtain ⟨h1, h2, h3, h4⟩ := hN i hi
  refine ⟨?_, SB_cm hB, SA_cm hi hA, (now_cmT σ i x).trans ht, hm, by rw [cmT_ch, hc]; show _ = μ.2.2.2.2.2.1 + 1 + k; rw [Int32.add_assoc, Int32.add_assoc, Int32.add_comm k 1]⟩
  rw [cmT_n, mBec_n]
  refine hN.up ⟨⟨rfl, h1.2⟩, hx, fun z => ⟨(ho2 z).2, (ho2 z).1⟩, fun z => ?_⟩
  have z1 : ¬ (σ.1 i).1 = 0 := ho.resolve_left z
  obtain ⟨e1, e2, w, hw, e3⟩ := h4 z1
  exact ⟨ht.trans hm.symm, e2, w, hw, e3⟩
theorem wkU_n (σ : CS) (i : Nat) : (wkU σ i).1 = va_up σ.1 i (4, σ.2.2.1, σ.2.2.1, σ.2.2.1 + 1, (σ.1 i).2.2.2.2) := by
  unfold wkU
  simp only [setN, cmT_n, va_up_up, va_up_self, now_cmT]
theorem mWak_n (σ : MS) (v : Nat) : (mWak σ v).1 = va_up σ.1 v (4, (σ.1 v).2.1, (σ.1 v).2.2.1, (σ.1 v).2.2.2.1, (σ.1 v).2.2.2.2.1, σ.2.2.2.2.1, σ.2.2.2.2.1, (σ.1 v).2.2.2.2.2.2.2.1, 1, σ.2.2.2.2.1) := by
  unfold mWak mBec
  simp only [setM, va_up_up, va_up_self]
theorem sim_wk {n a : Nat} {k : Int32} {σ : CS} {μ : MS} {i : Nat} (h : Sim n k a σ μ) (hi : i < n) (ho : (σ.1 i).2.2.2.2.2.2.1 = 0) : Sim n k a (wkU σ i) (mWak μ (i + 1)) := by
  obtain ⟨hN, hB, hA, ht, hm, hc⟩ := h
  obtain ⟨h1, h2, h3, h4⟩ := hN i hi
  have hA2 : SA n (wkU σ i).1 (wkU σ i).2.1 := by
    have z := SA_cm (x := 4) hi hA
    have e : (wkU σ i).1 = va_up (cmT σ i 4).1 i (4, σ.2.2.1, σ.2.2.1, σ.2.2.1 + 1, (σ.1 i).2.2.2.2) := by rw [wkU_n, cmT_n, va_up_up]
    rw [e]
    refine SA.up z ?_
    rw [cmT_n, va_up_self]
  refine ⟨?_, SB_cm (x := 4) hB, hA2, (now_wkU σ i).trans ht, hm, ?_⟩
  · rw [wkU_n, mWak_n]
    refine hN.up ⟨⟨rfl, h1.2⟩, Or.inr (Or.inr (Or.inr (Or.inr rfl))), fun z => absurd ho z, fun _ => ⟨ht.trans hm.symm, ht.trans hm.symm, a, Nat.le_refl a, Or.inr ⟨(show ¬ (1 : Int32) = 0 by decide), hm, by rw [ht]; exact lN_1 a⟩⟩⟩
  · show (cmT σ i 4).2.2.2 = μ.2.2.2.2.2.1 + 1 + k
    rw [cmT_ch, hc, Int32.add_assoc, Int32.add_assoc, Int32.add_comm k 1]
