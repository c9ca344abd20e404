/-! the class's state: a node (state, since, heard, nextRow, asked, passive, out, bits), a bus (group, keepingAwake, called), now, changes -/
abbrev NV : Type := Int32 × Int64 × Int64 × Int64 × Int32 × Int32 × Int32 × Int32
abbrev BV : Type := Int32 × Int32 × (Nat → Int64)
abbrev CS : Type := (Nat → NV) × (Nat → BV) × Int64 × Int32
def nodeL (ad : Nat × Nat → Nat) (i : Nat) (v : NV) : List Value := [.int (nI (i + 1)), .ref (ad (4, i / 8)), .int v.1, .long v.2.1, .long v.2.2.1, .long v.2.2.2.1, .int v.2.2.2.2.1, .int v.2.2.2.2.2.1, .int v.2.2.2.2.2.2.1, .int v.2.2.2.2.2.2.2]
def busL (ad : Nat × Nat → Nat) (b : Nat) (v : BV) : List Value := [.ref (ad (5, b)), .ref (ad (6, b)), .int v.1, .int v.2.1]
def thisL (ad : Nat × Nat → Nat) (σ : CS) : List Value := [.ref (ad (1, 0)), .ref (ad (2, 0)), .long σ.2.2.1, .int σ.2.2.2]
/-- how many buses, how many members -/
def nbs (n : Nat) : Nat := (n + 7) / 8
def mbs (n b : Nat) : Nat := min 8 (n - 8 * b)
def rfA (f : Nat → Nat) : (Nat → Int32) ⊕ (Nat → Int64) ⊕ (Nat → UInt32) ⊕ (Nat → UInt64) ⊕ (Nat → Option Nat) := .inr (.inr (.inr (.inr (fun i => some (f i)))))
def gC (n : Nat) (ad : Nat × Nat → Nat) (cN cB cL : ClassId) (σ : CS) : Nat × Nat → va_E
  | (0, 0) => .inr (2, thisL ad σ)
  | (1, 0) => .inl (cN, n, .inr (.inr (.inr (.inr (fun i => some (ad (3, i)))))))
  | (2, 0) => .inl (cB, nbs n, .inr (.inr (.inr (.inr (fun i => some (ad (4, i)))))))
  | (3, i) => .inr (1, nodeL ad i (σ.1 i))
  | (4, b) => .inr (0, busL ad b (σ.2.1 b))
  | (5, b) => .inl (cN, mbs n b, .inr (.inr (.inr (.inr (fun k => some (ad (3, 8 * b + k)))))))
  | (6, b) => .inl (cL, 32, .inr (.inl (σ.2.1 b).2.2))
  | _ => .inr (0, [])
def kC (n : Nat) : List (Nat × Nat) := [(0, 0), (1, 0), (2, 0)] ++ ((List.range n).map (fun i => (3, i)) ++ ((List.range (nbs n)).map (fun i => (4, i)) ++ ((List.range (nbs n)).map (fun i => (5, i)) ++ (List.range (nbs n)).map (fun i => (6, i)))))
theorem kC_0 {n : Nat} : (0, 0) ∈ kC n := by simp [kC]
theorem kC_1 {n : Nat} : (1, 0) ∈ kC n := by simp [kC]
theorem kC_2 {n : Nat} : (2, 0) ∈ kC n := by simp [kC]
theorem kC_3 {n i : Nat} (h : i < n) : (3, i) ∈ kC n := by simp [kC, h]
theorem kC_4 {n i : Nat} (h : i < nbs n) : (4, i) ∈ kC n := by simp [kC, h]
theorem kC_5 {n i : Nat} (h : i < nbs n) : (5, i) ∈ kC n := by simp [kC, h]
theorem kC_6 {n i : Nat} (h : i < nbs n) : (6, i) ∈ kC n := by simp [kC, h]
theorem nbs_of {n i : Nat} (h : i < n) : i / 8 < nbs n := by unfold nbs; omega
def tC (cN cB cL : ClassId) : List (ClassId × FieldType) := [(cN, .object "BusSleep$Node"), (cB, .object "BusSleep$Bus"), (cL, .long)]
def setN (σ : CS) (i : Nat) (v : NV) : CS := (va_up σ.1 i v, σ.2)
def setB (σ : CS) (b : Nat) (v : BV) : CS := (σ.1, va_up σ.2.1 b v, σ.2.2)
def setT (σ : CS) (t : Int64) : CS := (σ.1, σ.2.1, t, σ.2.2.2)
def setCh (σ : CS) (k : Int32) : CS := (σ.1, σ.2.1, σ.2.2.1, k)
theorem gC_N0 {n : Nat} {ad : Nat × Nat → Nat} {cN cB cL : ClassId} {σ : CS} {i : Nat} {v : NV} : ku (gC n ad cN cB cL σ) (3, i) (.inr (1, nodeL ad i v)) = gC n ad cN cB cL (setN σ i v) := by
  funext κ
  unfold ku
  split
  · next h => subst h; simp [gC, setN, va_up]
  · next h =>
    obtain ⟨a, b⟩ := κ
    match a, b, h with
    | 0, 0, _ => rfl
    | 0, b + 1, _ => rfl
    | 1, 0, _ => rfl
    | 1, b + 1, _ => rfl
    | 2, 0, _ => rfl
    | 2, b + 1, _ => rfl
    | 3, j, h =>
      have hj : j ≠ i := fun e => h (by rw [e])
      simp [gC, setN, va_up, hj]
    | 4, _, _ => rfl
    | 5, _, _ => rfl
    | 6, _, _ => rfl
    | a + 7, _, _ => rfl
theorem gC_B0 {n : Nat} {ad : Nat × Nat → Nat} {cN cB cL : ClassId} {σ : CS} {b : Nat} {x y : Int32} : ku (gC n ad cN cB cL σ) (4, b) (.inr (0, busL ad b (x, y, (σ.2.1 b).2.2))) = gC n ad cN cB cL (setB σ b (x, y, (σ.2.1 b).2.2)) := by
  funext κ
  unfold ku
  split
  · next h => subst h; simp [gC, setB, va_up]
  · next h =>
    obtain ⟨a, j⟩ := κ
    match a, j, h with
    | 0, 0, _ => rfl
    | 0, j + 1, _ => rfl
    | 1, 0, _ => rfl
    | 1, j + 1, _ => rfl
    | 2, 0, _ => rfl
    | 2, j + 1, _ => rfl
    | 3, _, _ => rfl
    | 4, j, h =>
      have hj : j ≠ b := fun e => h (by rw [e])
      simp [gC, setB, va_up, hj]
    | 5, _, _ => rfl
    | 6, j, _ =>
      by_cases hj : j = b
      · subst hj; simp [gC, setB, va_up]
      · simp [gC, setB, va_up, hj]
    | a + 7, _, _ => rfl
theorem gC_L {n : Nat} {ad : Nat × Nat → Nat} {cN cB cL : ClassId} {σ : CS} {b : Nat} {f : Nat → Int64} : ku (gC n ad cN cB cL σ) (6, b) (.inl (cL, 32, .inr (.inl f))) = gC n ad cN cB cL (setB σ b ((σ.2.1 b).1, (σ.2.1 b).2.1, f)) := by
  funext κ
  unfold ku
  split
  · next h => subst h; simp [gC, setB, va_up]
  · next h =>
    obtain ⟨a, j⟩ := κ
    match a, j, h with
    | 0, 0, _ => rfl
    | 0, j + 1, _ => rfl
    | 1, 0, _ => rfl
    | 1, j + 1, _ => rfl
    | 2, 0, _ => rfl
    | 2, j + 1, _ => rfl
    | 3, _, _ => rfl
    | 4, j, _ =>
      by_cases hj : j = b
      · subst hj; simp [gC, setB, va_up, busL]
      · simp [gC, setB, va_up, hj]
    | 5, _, _ => rfl
    | 6, j, h =>
      have hj : j ≠ b := fun e => h (by rw [e])
      simp [gC, setB, va_up, hj]
    | a + 7, _, _ => rfl
theorem gC_S0 {n : Nat} {ad : Nat × Nat → Nat} {cN cB cL : ClassId} {σ : CS} {t : Int64} {k : Int32} : ku (gC n ad cN cB cL σ) (0, 0) (.inr (2, [.ref (ad (1, 0)), .ref (ad (2, 0)), .long t, .int k])) = gC n ad cN cB cL (σ.1, σ.2.1, t, k) := by
  funext κ
  unfold ku
  split
  · next h => subst h; rfl
  · next h =>
    obtain ⟨a, j⟩ := κ
    match a, j, h with
    | 0, 0, h => exact absurd rfl h
    | 0, j + 1, _ => rfl
    | 1, 0, _ => rfl
    | 1, j + 1, _ => rfl
    | 2, 0, _ => rfl
    | 2, j + 1, _ => rfl
    | 3, _, _ => rfl
    | 4, _, _ => rfl
    | 5, _, _ => rfl
    | 6, _, _ => rfl
    | a + 7, _, _ => rfl
theorem gC_N {n : Nat} {ad : Nat × Nat → Nat} {cN cB cL : ClassId} {σ : CS} {i : Nat} {fs : List Value} {v : NV} (h : fs = nodeL ad i v) : ku (gC n ad cN cB cL σ) (3, i) (.inr (1, fs)) = gC n ad cN cB cL (setN σ i v) := by rw [h]; exact gC_N0
theorem gC_B {n : Nat} {ad : Nat × Nat → Nat} {cN cB cL : ClassId} {σ : CS} {b : Nat} {fs : List Value} {x y : Int32} (h : fs = busL ad b (x, y, (σ.2.1 b).2.2)) : ku (gC n ad cN cB cL σ) (4, b) (.inr (0, fs)) = gC n ad cN cB cL (setB σ b (x, y, (σ.2.1 b).2.2)) := by rw [h]; exact gC_B0
theorem gC_S {n : Nat} {ad : Nat × Nat → Nat} {cN cB cL : ClassId} {σ : CS} {t : Int64} {k : Int32} {fs : List Value} (h : fs = [.ref (ad (1, 0)), .ref (ad (2, 0)), .long t, .int k]) : ku (gC n ad cN cB cL σ) (0, 0) (.inr (2, fs)) = gC n ad cN cB cL (σ.1, σ.2.1, t, k) := by rw [h]; exact gC_S0
/-- the class's contracts: what they begin with, what they end with -/
abbrev cPre (D : va_G) (n : Nat) (ad : Nat × Nat → Nat) (cN cB cL : ClassId) (σ : CS) (av : List Value) (sz : Nat) : Array Value → State → Prop := va_Pc av (fun U => U.heap.size = sz ∧ kB D (tC cN cB cL) (kC n) ad (gC n ad cN cB cL σ) U)
abbrev cQi (D : va_G) (n : Nat) (ad : Nat × Nat → Nat) (cN cB cL : ClassId) (sz : Nat) (post : Int32 → CS → Prop) : Array Value → State → Outcome → State → Prop := va_Qi post (fun τ t => kB D (tC cN cB cL) (kC n) ad (gC n ad cN cB cL τ) t) (kA (kC n) ad sz)
abbrev cQv (D : va_G) (n : Nat) (ad : Nat × Nat → Nat) (cN cB cL : ClassId) (sz : Nat) (post : CS → Prop) : Array Value → State → Outcome → State → Prop := va_Qv post (fun τ t => kB D (tC cN cB cL) (kC n) ad (gC n ad cN cB cL τ) t) (kA (kC n) ad sz)
