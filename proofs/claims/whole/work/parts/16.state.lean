/-! the states: a card (judges, skaters, the lost ones as bits, marks, lands of judges, of skaters) -/
abbrev Vw : Type := Nat × Nat × Nat × (Nat → Nat → Nat) × (Nat → Nat) × (Nat → Nat)
def vn (V : Vw) : Nat := V.1
def vm (V : Vw) : Nat := V.2.1
def vL (V : Vw) : Nat := V.2.2.1
def vk (V : Vw) : Nat → Nat → Nat := V.2.2.2.1
def vj (V : Vw) : Nat → Nat := V.2.2.2.2.1
def vs (V : Vw) : Nat → Nat := V.2.2.2.2.2
/-- whose marks count -/
def vc (V : Vw) (j : Nat) : Bool := decide (j < vn V) && !(vL V).testBit j
def VOK (V : Vw) : Prop := 1 ≤ vn V ∧ vn V ≤ 7 ∧ 1 ≤ vm V ∧ vm V ≤ 4 ∧ vL V < 128 ∧ (∀ j, j < 7 → ∀ s, s < 4 → vk V j s ≤ 5) ∧ (∀ j, j < 7 → vj V j ≤ 3) ∧ ∀ s, s < 4 → vs V s ≤ 3
/-- the class's card at c -/
def CardIs (M : MM) (c : Nat) (V : Vw) : Prop := M c 3 = nI (vn V) ∧ M c 4 = nI (vm V) ∧ M c 5 = nI (vL V) ∧ (∀ j, j < 7 → ∀ s, s < 4 → M (c + 1) (4 * j + s) = nI (vk V j s)) ∧ (∀ j, j < 7 → M (c + 2) j = nI (vj V j)) ∧ ∀ s, s < 4 → M (c + 3) s = nI (vs V s)
/-- the reference's card -/
def RefCard (M : MM) (V : Vw) : Prop := M 83 1 = nI (vn V) ∧ M 83 2 = nI (vm V) ∧ (∀ j, j < 7 → M 87 j = nI (b2n ((vL V).testBit j))) ∧ (∀ j, j < 7 → ∀ s, s < 4 → M 86 (4 * j + s) = nI (vk V j s)) ∧ (∀ j, j < 7 → M 84 j = nI (vj V j)) ∧ ∀ s, s < 4 → M 85 s = nI (vs V s)
def RuOK (R : Ru) : Prop := 1 ≤ R.1 ∧ R.1 ≤ 3 ∧ (∀ i, i < R.1 → R.2.1 i ≤ 4) ∧ (∀ i, i < R.1 → R.2.1 i = 0 → R.2.2.1 i ≤ 3) ∧ ∀ i, i < R.1 → R.2.1 i = 4 → ∀ j, j < 7 → R.2.2.2 i j ≤ 9
/-- the class's rule at z -/
def SchIs (M : MM) (z : Nat) (R : Ru) : Prop := M z 3 = nI R.1 ∧ (∀ i, i < R.1 → M (z + 1) i = nI (R.2.1 i)) ∧ (∀ i, i < R.1 → R.2.1 i = 0 → M (z + 2) i = nI (R.2.2.1 i)) ∧ ∀ i, i < R.1 → R.2.1 i = 4 → ∀ j, j < 7 → M (z + 3) (7 * i + j) = nI (R.2.2.2 i j)
/-- the reference's rule r -/
def RefRu (M : MM) (r : Nat) (R : Ru) : Prop := M 94 r = nI R.1 ∧ (∀ i, i < R.1 → M 95 (3 * r + i) = nI (R.2.1 i)) ∧ (∀ i, i < R.1 → R.2.1 i = 0 → M 96 (3 * r + i) = nI (R.2.2.1 i)) ∧ ∀ i, i < R.1 → R.2.1 i = 4 → ∀ j, j < 7 → M 97 (21 * r + 7 * i + j) = nI (R.2.2.2 i j)
/-- the text, the rules, the past -/
abbrev St : Type := Vw × (Nat × (Nat → Nat)) × (Nat → Ru) × Nat × (Nat → Vw)
def sV (S : St) : Vw := S.1
def sT (S : St) : Nat × (Nat → Nat) := S.2.1
def sR (S : St) : Nat → Ru := S.2.2.1
def sN (S : St) : Nat := S.2.2.2.1
def sP (S : St) : Nat → Vw := S.2.2.2.2
def StOK (S : St) : Prop := VOK (sV S) ∧ ((sT S).1 ≤ 16 ∧ ∀ i, i < (sT S).1 → (sT S).2 i < 256) ∧ (∀ r, r < 3 → RuOK (sR S r)) ∧ sN S ≤ 8 ∧ ∀ i, i < sN S → VOK (sP S i)
def RefPast (M : MM) (i : Nat) (V : Vw) : Prop := M 101 i = nI (vn V) ∧ M 102 i = nI (vm V) ∧ (∀ j, j < 7 → M 103 (7 * i + j) = nI (vj V j)) ∧ (∀ s, s < 4 → M 104 (4 * i + s) = nI (vs V s)) ∧ (∀ j, j < 7 → ∀ s, s < 4 → M 105 (28 * i + 4 * j + s) = nI (vk V j s)) ∧ ∀ j, j < 7 → M 106 (7 * i + j) = nI (b2n ((vL V).testBit j))
def ClsInv (M : MM) (S : St) : Prop := CardIs M 1 (sV S) ∧ (M 9 1 = nI (sT S).1 ∧ ∀ i, i < (sT S).1 → M 10 i = nI ((sT S).2 i)) ∧ (∀ r, r < 3 → SchIs M (71 + 4 * r) (sR S r)) ∧ M 35 1 = nI (sN S) ∧ ∀ i, i < sN S → CardIs M (37 + 4 * i) (sP S i)
def RefInv (M : MM) (S : St) : Prop := RefCard M (sV S) ∧ (M 83 10 = nI (sT S).1 ∧ ∀ i, i < (sT S).1 → M 90 i = nI ((sT S).2 i)) ∧ ((∀ r, r < 3 → RefRu M r (sR S r)) ∧ M 94 3 = nI 1 ∧ M 95 9 = nI 0) ∧ M 83 22 = nI (sN S) ∧ ∀ i, i < sN S → RefPast M i (sP S i)
/-- what lies apart stays -/
def Kp (M M' : MM) (ids : List Nat) : Prop := ∀ i, i ∉ ids → M' i = M i
theorem Kp.rf (M : MM) (ids : List Nat) : Kp M M ids := fun _ _ => rfl
theorem Kp.tr {M M1 M2 : MM} {ids : List Nat} (h1 : Kp M M1 ids) (h2 : Kp M1 M2 ids) : Kp M M2 ids := fun i hi => (h2 i hi).trans (h1 i hi)
theorem Kp.up {M M1 : MM} {ids : List Nat} {i : Nat} {f : Nat → Int32} (h : Kp M M1 ids) (hi : i ∈ ids) : Kp M (q_up M1 i f) ids := fun j hj => by
  rw [q_up_ne M1 f (show j ≠ i from fun e => hj (by rw [e]; exact hi))]; exact h j hj
theorem Kp.mono {M M' : MM} {a b : List Nat} (h : Kp M M' a) (hs : ∀ i ∈ a, i ∈ b) : Kp M M' b := fun i hi => h i (fun z => hi (hs i z))
theorem upd_at (f : Nat → Int32) (k : Nat) (x : Int32) : upd f k x k = x := by simp [upd]
theorem upd_ne (f : Nat → Int32) {k j : Nat} (x : Int32) (h : j ≠ k) : upd f k x j = f j := by simp [upd, h]
/-- a loop that counts up -/
theorem q_dn {n : Nat} {P : Nat → Prop} (hend : P n) (hstep : ∀ j, j < n → P (j + 1) → P j) : ∀ j, j ≤ n → P j := by
  have h : ∀ d j, j + d = n → P j := by
    intro d
    induction d with
    | zero => intro j hj; rw [show j = n by omega]; exact hend
    | succ d ih => intro j hj; exact hstep j (by omega) (ih (j + 1) (by omega))
  intro j hj
  exact h (n - j) j (by omega)
/-! is an int one of the first n? -/
def isN (x : Int32) (n : Nat) : Bool := decide (0 ≤ x) && decide (x < nI n)
theorem isN_nI {j n : Nat} (hj : j < 2 ^ 31) (hn : n < 2 ^ 31) : isN (nI j) n = decide (j < n) := by
  simp only [isN, q_z_ge hj, q_nlt hj hn, decide_true, Bool.true_and]
theorem isN_of {x : Int32} {n : Nat} (hn : n < 2 ^ 31) (h : isN x n = true) : ∃ j, j < n ∧ x = nI j := by
  simp only [isN, Bool.and_eq_true, decide_eq_true_eq] at h
  have h0 : 0 ≤ x.toInt := by have := Int32.le_iff_toInt_le.mp h.1; simpa using this
  have h1 : x.toInt < n := by have := Int32.lt_iff_toInt_lt.mp h.2; rwa [q_toInt hn] at this
  refine ⟨x.toInt.toNat, by omega, ?_⟩
  rw [← Int32.toInt_inj, q_toInt (by omega)]
  omega
theorem q_in64 {x : Int32} {lo hi : Nat} (h1 : lo < 2 ^ 31) (h2 : hi < 2 ^ 31) : (decide (Int64.ofNat lo ≤ x.toInt64) && decide (x.toInt64 ≤ Int64.ofNat hi)) = (decide (nI lo ≤ x) && decide (x ≤ nI hi)) := by
  have e1 : (Int64.ofNat lo).toInt = (lo : Int) := Int64.toInt_ofNat_of_lt (by omega)
  have e2 : (Int64.ofNat hi).toInt = (hi : Int) := Int64.toInt_ofNat_of_lt (by omega)
  have e3 : x.toInt64.toInt = x.toInt := Int32.toInt_toInt64 x
  congr 1
  · rw [decide_eq_decide, Int64.le_iff_toInt_le, Int32.le_iff_toInt_le, e1, e3, q_toInt h1]
  · rw [decide_eq_decide, Int64.le_iff_toInt_le, Int32.le_iff_toInt_le, e2, e3, q_toInt h2]
theorem q_in0 {x : Int32} {n : Nat} (h1 : 1 ≤ n) (h2 : n < 2 ^ 31) : (decide (Int64.ofNat 0 ≤ x.toInt64) && decide (x.toInt64 ≤ (nI (n - 1)).toInt64)) = isN x n := by
  have e1 : (Int64.ofNat 0).toInt = 0 := Int64.toInt_ofNat_of_lt (by omega)
  have e3 : x.toInt64.toInt = x.toInt := Int32.toInt_toInt64 x
  have e4 : (nI (n - 1)).toInt64.toInt = ((n - 1 : Nat) : Int) := by rw [Int32.toInt_toInt64, q_toInt (by omega)]
  unfold isN
  congr 1
  · rw [decide_eq_decide, Int64.le_iff_toInt_le, Int32.le_iff_toInt_le, e1, e3]; simp
  · rw [decide_eq_decide, Int64.le_iff_toInt_le, Int32.lt_iff_toInt_lt, e4, e3, q_toInt h2]; omega
theorem q_isN_le {x : Int32} {n : Nat} (h2 : n + 1 < 2 ^ 31) : (decide (nI 0 ≤ x) && decide (x ≤ nI n)) = isN x (n + 1) := by
  unfold isN
  rw [nI_0]
  congr 1
  rw [decide_eq_decide, Int32.le_iff_toInt_le, Int32.lt_iff_toInt_lt, q_toInt (by omega), q_toInt h2]; omega
theorem lg_lt {x y : Int64} : lg_cmp x y < 0 ↔ x < y := by
  unfold lg_cmp
  by_cases h : x > y
  · rw [if_pos h]
    exact ⟨fun z => absurd z (by decide), fun z => absurd (Int64.lt_trans h z) (Int64.lt_irrefl)⟩
  · rw [if_neg h]
    by_cases e : x = y
    · rw [if_pos e]
      subst e
      exact ⟨fun z => absurd z (by decide), fun z => absurd z Int64.lt_irrefl⟩
    · rw [if_neg e]
      refine ⟨fun _ => ?_, fun _ => by decide⟩
      rcases Int64.lt_or_eq_of_le (Int64.not_lt.mp h) with z | z
      · exact z
      · exact absurd z e
theorem lg_gt {x y : Int64} : 0 < lg_cmp x y ↔ y < x := by
  unfold lg_cmp
  by_cases h : x > y
  · rw [if_pos h]
    exact ⟨fun _ => h, fun _ => by decide⟩
  · rw [if_neg h]
    by_cases e : x = y
    · rw [if_pos e]; exact ⟨fun z => absurd z (by decide), fun z => absurd z h⟩
    · rw [if_neg e]; exact ⟨fun z => absurd z (by decide), fun z => absurd z h⟩
