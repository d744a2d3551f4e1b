/-! what is meant -/
def sumN (f : Nat → Nat) : Nat → Nat
  | 0 => 0
  | n + 1 => sumN f n + f n
def pt (a b : Nat) : Nat := if b < a then 2 else if a = b then 1 else 0
def wRanks (n m : Nat) (cnt : Nat → Bool) (mk : Nat → Nat → Nat) (s : Nat) : Nat := sumN (fun j => if cnt j then sumN (fun o => if o = s then 0 else pt (mk j s) (mk j o)) m else 0) n
def wMore (n : Nat) (cnt : Nat → Bool) (mk : Nat → Nat → Nat) (a b : Nat) : Nat := sumN (fun j => if cnt j = true ∧ mk j b < mk j a then 1 else 0) n
def wPairs (n m : Nat) (cnt : Nat → Bool) (mk : Nat → Nat → Nat) (s : Nat) : Nat := sumN (fun o => if o = s then 0 else pt (wMore n cnt mk s o) (wMore n cnt mk o s)) m
def wWei (n : Nat) (cnt : Nat → Bool) (mk : Nat → Nat → Nat) (fig : Nat → Nat) (s : Nat) : Nat := sumN (fun j => if cnt j then mk j s * fig j else 0) n
def updN (f : Nat → Nat) (k v : Nat) : Nat → Nat := fun j => if j = k then v else f j
def insA (row : Nat → Nat) : Nat → Nat → (Nat → Nat)
  | 0, v => updN row 0 v
  | a + 1, v => if v < row a then insA (updN row (a + 1) (row a)) a v else updN row (a + 1) v
def srt (cnt : Nat → Bool) (col : Nat → Nat) : Nat → (Nat → Nat) × Nat
  | 0 => (fun _ => 0, 0)
  | j + 1 => if cnt j then (insA (srt cnt col j).1 (srt cnt col j).2 (col j), (srt cnt col j).2 + 1) else srt cnt col j
def wStruck (n : Nat) (cnt : Nat → Bool) (mk : Nat → Nat → Nat) (k s : Nat) : Nat := sumN (fun i => if k ≤ i then (srt cnt (fun j => mk j s) n).1 i else 0) ((srt cnt (fun j => mk j s) n).2 - k)
def wMid (n : Nat) (cnt : Nat → Bool) (mk : Nat → Nat → Nat) (s : Nat) : Nat :=
  if (srt cnt (fun j => mk j s) n).2 = 0 then 0 else (srt cnt (fun j => mk j s) n).1 (((srt cnt (fun j => mk j s) n).2 - 1) / 2) + (srt cnt (fun j => mk j s) n).1 ((srt cnt (fun j => mk j s) n).2 / 2)
/-- a rule: parts, their kinds, strikes, figures -/
abbrev Ru : Type := Nat × (Nat → Nat) × (Nat → Nat) × (Nat → Nat → Nat)
def worthW (n m : Nat) (cnt : Nat → Bool) (mk : Nat → Nat → Nat) (R : Ru) (i s : Nat) : Nat := match R.2.1 i with
  | 0 => wStruck n cnt mk (R.2.2.1 i) s
  | 1 => wMid n cnt mk s
  | 2 => wRanks n m cnt mk s
  | 3 => wPairs n m cnt mk s
  | _ => wWei n cnt mk (R.2.2.2 i) s
def aheadW (w : Nat → Nat → Nat) (a b : Nat) : Nat → Nat → Bool
  | _, 0 => false
  | i, d + 1 => if w i a = w i b then aheadW w a b (i + 1) d else decide (w i b < w i a)
def placeW (w : Nat → Nat → Nat) (parts m s : Nat) : Nat := 1 + sumN (fun o => if aheadW w o s 0 parts then 1 else 0) m
def b2n (b : Bool) : Nat := if b then 1 else 0
theorem sumN_le {f : Nat → Nat} {c : Nat} : ∀ {n : Nat}, (∀ j, j < n → f j ≤ c) → sumN f n ≤ n * c
  | 0, _ => by simp [sumN]
  | n + 1, h => by
    have h1 := sumN_le (n := n) (fun j hj => h j (by omega))
    have h2 := h n (by omega)
    simp only [sumN, Nat.add_mul, Nat.one_mul]
    omega
theorem sumN_congr {f g : Nat → Nat} : ∀ {n : Nat}, (∀ j, j < n → f j = g j) → sumN f n = sumN g n
  | 0, _ => rfl
  | n + 1, h => by simp only [sumN, sumN_congr (n := n) (fun j hj => h j (by omega)), h n (by omega)]
/-! signs of differences -/
theorem q_toInt {a : Nat} (h : a < 2 ^ 31) : (nI a).toInt = (a : Int) := nI_toInt h
theorem q_dInt {a b : Nat} (ha : a < 2 ^ 30) (hb : b < 2 ^ 30) : (nI a - nI b).toInt = (a : Int) - (b : Int) := by
  rw [Int32.toInt_sub, q_toInt (by omega), q_toInt (by omega)]
  exact Int.bmod_eq_of_le (by omega) (by omega)
theorem q_d_le {a b : Nat} (ha : a < 2 ^ 30) (hb : b < 2 ^ 30) : nI a - nI b ≤ 0 ↔ a ≤ b := by
  rw [Int32.le_iff_toInt_le, q_dInt ha hb]; simp <;> omega
theorem q_d_lt {a b : Nat} (ha : a < 2 ^ 30) (hb : b < 2 ^ 30) : nI a - nI b < 0 ↔ a < b := by
  rw [Int32.lt_iff_toInt_lt, q_dInt ha hb]; simp <;> omega
theorem q_d_ge {a b : Nat} (ha : a < 2 ^ 30) (hb : b < 2 ^ 30) : 0 ≤ nI a - nI b ↔ b ≤ a := by
  rw [Int32.le_iff_toInt_le, q_dInt ha hb]; simp <;> omega
theorem q_d_gt {a b : Nat} (ha : a < 2 ^ 30) (hb : b < 2 ^ 30) : 0 < nI a - nI b ↔ b < a := by
  rw [Int32.lt_iff_toInt_lt, q_dInt ha hb]; simp <;> omega
theorem q_d_eq {a b : Nat} (ha : a < 2 ^ 30) (hb : b < 2 ^ 30) : nI a - nI b = 0 ↔ a = b := by
  rw [← Int32.toInt_inj, q_dInt ha hb]; simp <;> omega
theorem q_z_eq {a : Nat} (ha : a < 2 ^ 31) : nI a = 0 ↔ a = 0 := by rw [← nI_0, q_ninj ha (by omega)]
theorem q_z_le {a : Nat} (ha : a < 2 ^ 31) : nI a ≤ 0 ↔ a = 0 := by rw [← nI_0, q_nle ha (by omega)]; omega
theorem q_z_gt {a : Nat} (ha : a < 2 ^ 31) : 0 < nI a ↔ 0 < a := by rw [← nI_0, q_nlt (by omega) ha]
theorem q_z_lt {a : Nat} (ha : a < 2 ^ 31) : ¬ nI a < 0 := nI_pos ha
theorem q_z_ge {a : Nat} (ha : a < 2 ^ 31) : 0 ≤ nI a := nI_pos' ha
theorem q_dec (j : Nat) : nI (j + 1) + Int32.ofInt (.negSucc 0) = nI j := by
  have h : nI (j + 1) = nI j + 1 := nI_succ j
  rw [h, show (Int32.ofInt (.negSucc 0)) = -1 by decide, Int32.add_assoc, show (1 : Int32) + -1 = 0 by decide, Int32.add_zero]
section WPD
variable {X : q_X} {cu su k i pc len a b c d : Nat} {cd : List q_Ent} {al : List (Option Value)} {st : List Value} {M : MM} {Q : Option Value → MM → Prop}
theorem wp_ifeqD {x : Int32} {u v : Nat} {off : Int} (hk : q_cd k = cd) (h : cd[i]? = some (pc, len, .ifCond .eq off, a, b, c, d)) (hx : x = nI u - nI v) (hu : u < 2 ^ 30) (hv : v < 2 ^ 30) (kt : u = v → WPg X cu su k a al st M Q) (kf : ¬ (u = v) → WPg X cu su k (i + 1) al st M Q) : WPg X cu su k i al (.int x :: st) M Q := by
  subst hx
  exact wp_ifeq hk h (fun q => kt ((q_d_eq hu hv).mp q)) (fun q => kf (fun z => q ((q_d_eq hu hv).mpr z)))
theorem wp_ifneD {x : Int32} {u v : Nat} {off : Int} (hk : q_cd k = cd) (h : cd[i]? = some (pc, len, .ifCond .ne off, a, b, c, d)) (hx : x = nI u - nI v) (hu : u < 2 ^ 30) (hv : v < 2 ^ 30) (kt : ¬ u = v → WPg X cu su k a al st M Q) (kf : ¬ (¬ u = v) → WPg X cu su k (i + 1) al st M Q) : WPg X cu su k i al (.int x :: st) M Q := by
  subst hx
  exact wp_ifne hk h (fun q => kt ((not_congr (q_d_eq hu hv)).mp q)) (fun q => kf (fun z => q ((not_congr (q_d_eq hu hv)).mpr z)))
theorem wp_ifltD {x : Int32} {u v : Nat} {off : Int} (hk : q_cd k = cd) (h : cd[i]? = some (pc, len, .ifCond .lt off, a, b, c, d)) (hx : x = nI u - nI v) (hu : u < 2 ^ 30) (hv : v < 2 ^ 30) (kt : u < v → WPg X cu su k a al st M Q) (kf : ¬ (u < v) → WPg X cu su k (i + 1) al st M Q) : WPg X cu su k i al (.int x :: st) M Q := by
  subst hx
  exact wp_iflt hk h (fun q => kt ((q_d_lt hu hv).mp q)) (fun q => kf (fun z => q ((q_d_lt hu hv).mpr z)))
theorem wp_ifgeD {x : Int32} {u v : Nat} {off : Int} (hk : q_cd k = cd) (h : cd[i]? = some (pc, len, .ifCond .ge off, a, b, c, d)) (hx : x = nI u - nI v) (hu : u < 2 ^ 30) (hv : v < 2 ^ 30) (kt : v ≤ u → WPg X cu su k a al st M Q) (kf : ¬ (v ≤ u) → WPg X cu su k (i + 1) al st M Q) : WPg X cu su k i al (.int x :: st) M Q := by
  subst hx
  exact wp_ifge hk h (fun q => kt ((q_d_ge hu hv).mp q)) (fun q => kf (fun z => q ((q_d_ge hu hv).mpr z)))
theorem wp_ifgtD {x : Int32} {u v : Nat} {off : Int} (hk : q_cd k = cd) (h : cd[i]? = some (pc, len, .ifCond .gt off, a, b, c, d)) (hx : x = nI u - nI v) (hu : u < 2 ^ 30) (hv : v < 2 ^ 30) (kt : v < u → WPg X cu su k a al st M Q) (kf : ¬ (v < u) → WPg X cu su k (i + 1) al st M Q) : WPg X cu su k i al (.int x :: st) M Q := by
  subst hx
  exact wp_ifgt hk h (fun q => kt ((q_d_gt hu hv).mp q)) (fun q => kf (fun z => q ((q_d_gt hu hv).mpr z)))
theorem wp_ifleD {x : Int32} {u v : Nat} {off : Int} (hk : q_cd k = cd) (h : cd[i]? = some (pc, len, .ifCond .le off, a, b, c, d)) (hx : x = nI u - nI v) (hu : u < 2 ^ 30) (hv : v < 2 ^ 30) (kt : u ≤ v → WPg X cu su k a al st M Q) (kf : ¬ (u ≤ v) → WPg X cu su k (i + 1) al st M Q) : WPg X cu su k i al (.int x :: st) M Q := by
  subst hx
  exact wp_ifle hk h (fun q => kt ((q_d_le hu hv).mp q)) (fun q => kf (fun z => q ((q_d_le hu hv).mpr z)))
theorem wp_ifeqN {x : Int32} {u : Nat} {off : Int} (hk : q_cd k = cd) (h : cd[i]? = some (pc, len, .ifCond .eq off, a, b, c, d)) (hx : x = nI u) (hu : u < 2 ^ 31) (kt : u = 0 → WPg X cu su k a al st M Q) (kf : ¬ (u = 0) → WPg X cu su k (i + 1) al st M Q) : WPg X cu su k i al (.int x :: st) M Q := by
  subst hx
  exact wp_ifeq hk h (fun q => kt ((q_z_eq hu).mp q)) (fun q => kf (fun z => q ((q_z_eq hu).mpr z)))
theorem wp_ifneN {x : Int32} {u : Nat} {off : Int} (hk : q_cd k = cd) (h : cd[i]? = some (pc, len, .ifCond .ne off, a, b, c, d)) (hx : x = nI u) (hu : u < 2 ^ 31) (kt : ¬ u = 0 → WPg X cu su k a al st M Q) (kf : ¬ (¬ u = 0) → WPg X cu su k (i + 1) al st M Q) : WPg X cu su k i al (.int x :: st) M Q := by
  subst hx
  exact wp_ifne hk h (fun q => kt ((not_congr (q_z_eq hu)).mp q)) (fun q => kf (fun z => q ((not_congr (q_z_eq hu)).mpr z)))
theorem wp_ifgtN {x : Int32} {u : Nat} {off : Int} (hk : q_cd k = cd) (h : cd[i]? = some (pc, len, .ifCond .gt off, a, b, c, d)) (hx : x = nI u) (hu : u < 2 ^ 31) (kt : 0 < u → WPg X cu su k a al st M Q) (kf : ¬ (0 < u) → WPg X cu su k (i + 1) al st M Q) : WPg X cu su k i al (.int x :: st) M Q := by
  subst hx
  exact wp_ifgt hk h (fun q => kt ((q_z_gt hu).mp q)) (fun q => kf (fun z => q ((q_z_gt hu).mpr z)))
theorem wp_ifleN {x : Int32} {u : Nat} {off : Int} (hk : q_cd k = cd) (h : cd[i]? = some (pc, len, .ifCond .le off, a, b, c, d)) (hx : x = nI u) (hu : u < 2 ^ 31) (kt : u = 0 → WPg X cu su k a al st M Q) (kf : ¬ (u = 0) → WPg X cu su k (i + 1) al st M Q) : WPg X cu su k i al (.int x :: st) M Q := by
  subst hx
  exact wp_ifle hk h (fun q => kt ((q_z_le hu).mp q)) (fun q => kf (fun z => q ((q_z_le hu).mpr z)))
/-- a boolean that was laid away -/
theorem wp_ifeqB {x : Int32} {u : Bool} {off : Int} (hk : q_cd k = cd) (h : cd[i]? = some (pc, len, .ifCond .eq off, a, b, c, d)) (hx : x = nI (b2n u)) (kt : u = false → WPg X cu su k a al st M Q) (kf : u = true → WPg X cu su k (i + 1) al st M Q) : WPg X cu su k i al (.int x :: st) M Q := by
  refine wp_ifeqN hk h hx (by cases u <;> decide) (fun q => kt ?_) (fun q => kf ?_)
  · cases u; rfl; cases q
  · cases u; exact absurd rfl q; rfl
theorem wp_ifneB {x : Int32} {u : Bool} {off : Int} (hk : q_cd k = cd) (h : cd[i]? = some (pc, len, .ifCond .ne off, a, b, c, d)) (hx : x = nI (b2n u)) (kt : u = true → WPg X cu su k a al st M Q) (kf : u = false → WPg X cu su k (i + 1) al st M Q) : WPg X cu su k i al (.int x :: st) M Q := by
  refine wp_ifneN hk h hx (by cases u <;> decide) (fun q => kt ?_) (fun q => kf ?_)
  · cases u; exact absurd rfl q; rfl
  · cases u; rfl; exact absurd (fun z => by cases z) q
end WPD
