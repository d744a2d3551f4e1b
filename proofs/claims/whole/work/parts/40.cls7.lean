/-! worths by parts -/
theorem srt_congr {cnt cnt' : Nat → Bool} {col col' : Nat → Nat} : ∀ {j : Nat}, (∀ i, i < j → cnt i = cnt' i) → (∀ i, i < j → cnt i = true → col i = col' i) → srt cnt col j = srt cnt' col' j
  | 0, _, _ => rfl
  | j + 1, h1, h2 => by
    have ih := srt_congr (j := j) (fun i hi => h1 i (by omega)) (fun i hi => h2 i (by omega))
    simp only [srt]
    rw [← h1 j (by omega), ih]
    cases hc : cnt j with
    | false => rfl
    | true => rw [h2 j (by omega) hc]
theorem wMore_congr {cnt cnt' : Nat → Bool} {mk mk' : Nat → Nat → Nat} {a b n : Nat} (h1 : ∀ i, i < n → cnt i = cnt' i) (h2 : ∀ i, i < n → cnt i = true → mk i a = mk' i a ∧ mk i b = mk' i b) : wMore n cnt mk a b = wMore n cnt' mk' a b := by
  unfold wMore
  refine sumN_congr (fun j hj => ?_)
  rw [← h1 j hj]
  cases hc : cnt j with
  | false => simp
  | true =>
    obtain ⟨e1, e2⟩ := h2 j hj hc
    rw [e1, e2]
theorem wRanks_congr {cnt cnt' : Nat → Bool} {mk mk' : Nat → Nat → Nat} {s n m : Nat} (hs : s < m) (h1 : ∀ i, i < n → cnt i = cnt' i) (h2 : ∀ i, i < n → cnt i = true → ∀ s, s < m → mk i s = mk' i s) : wRanks n m cnt mk s = wRanks n m cnt' mk' s := by
  unfold wRanks
  refine sumN_congr (fun j hj => ?_)
  rw [← h1 j hj]
  cases hc : cnt j with
  | false => rfl
  | true =>
    rw [if_pos rfl, if_pos rfl]
    refine sumN_congr (fun o ho => ?_)
    rw [h2 j hj hc s hs, h2 j hj hc o ho]
theorem wPairs_congr {cnt cnt' : Nat → Bool} {mk mk' : Nat → Nat → Nat} {s n m : Nat} (hs : s < m) (h1 : ∀ i, i < n → cnt i = cnt' i) (h2 : ∀ i, i < n → cnt i = true → ∀ s, s < m → mk i s = mk' i s) : wPairs n m cnt mk s = wPairs n m cnt' mk' s := by
  unfold wPairs
  refine sumN_congr (fun o ho => ?_)
  rw [wMore_congr h1 (fun i hi hc => ⟨h2 i hi hc s hs, h2 i hi hc o ho⟩), wMore_congr h1 (fun i hi hc => ⟨h2 i hi hc o ho, h2 i hi hc s hs⟩)]
theorem wWei_congr {cnt cnt' : Nat → Bool} {mk mk' : Nat → Nat → Nat} {fig : Nat → Nat} {s n : Nat} (h1 : ∀ i, i < n → cnt i = cnt' i) (h2 : ∀ i, i < n → cnt i = true → mk i s = mk' i s) : wWei n cnt mk fig s = wWei n cnt' mk' fig s := by
  unfold wWei
  refine sumN_congr (fun j hj => ?_)
  rw [← h1 j hj]
  cases hc : cnt j with
  | false => rfl
  | true => rw [h2 j hj hc]
/-- kinds that look at one skater's marks only -/
theorem worth_col {cnt cnt' : Nat → Bool} {mk mk' : Nat → Nat → Nat} {R : Ru} {n m i s : Nat} (hk : ¬ R.2.1 i = 2) (hk3 : ¬ R.2.1 i = 3) (h1 : ∀ i, i < n → cnt i = cnt' i) (h2 : ∀ i, i < n → cnt i = true → mk i s = mk' i s) : worthW n m cnt mk R i s = worthW n m cnt' mk' R i s := by
  have hs := srt_congr (col := fun j => mk j s) (col' := fun j => mk' j s) h1 h2
  have hw := wWei_congr (fig := R.2.2.2 i) h1 h2
  unfold worthW
  split
  · unfold wStruck; rw [hs]
  · unfold wMid; rw [hs]
  · rename_i z; exact absurd z hk
  · rename_i z; exact absurd z hk3
  · exact hw
theorem sumN_split {f g : Nat → Nat} {j : Nat} (hg : ∀ i, ¬ i = j → g i = f i) (h0 : g j = 0) : ∀ n, sumN f n = sumN g n + (if j < n then f j else 0)
  | 0 => rfl
  | n + 1 => by
    simp only [sumN]
    rw [sumN_split hg h0 n]
    by_cases e : n = j
    · subst e
      rw [h0, if_neg (by omega), if_pos (by omega)]
    · rw [hg n e]
      by_cases h2 : j < n
      · rw [if_pos h2, if_pos (by omega)]; omega
      · rw [if_neg h2, if_neg (by omega)]; omega
/-- a judge's row by hand -/
def mkR (mk : Nat → Nat → Nat) (m j : Nat) (g : Nat → Nat) : Nat → Nat → Nat := fun j' s' => if j' = j ∧ s' < m then g s' else mk j' s'
theorem mkG_R (mk : Nat → Nat → Nat) (m j v : Nat) : mkG mk m j v = mkR mk m j (dig m v) := rfl
theorem more_split {cnt : Nat → Bool} {mk : Nat → Nat → Nat} {n m j a b : Nat} {g : Nat → Nat} (hj : j < n) (ha : a < m) (hb : b < m) : wMore n (cntG cnt j) (mkR mk m j g) a b = wMore n (cntM cnt j false) mk a b + (if g b < g a then 1 else 0) := by
  unfold wMore
  rw [sumN_split (f := fun j_1 => if cntG cnt j j_1 = true ∧ mkR mk m j g j_1 b < mkR mk m j g j_1 a then 1 else 0) (g := fun j_1 => if cntM cnt j false j_1 = true ∧ mk j_1 b < mk j_1 a then 1 else 0) (j := j) (fun i hi => ?_) ?_ n, if_pos hj]
  · congr 1
    simp only [cntG, mkR, if_pos, true_and, ha, hb]
  · simp [cntM]
  · have e1 : cntG cnt j i = cnt i := by simp only [cntG]; rw [if_neg hi]
    have e2 : cntM cnt j false i = cnt i := by simp only [cntM]; rw [if_neg hi]
    have e3 : ∀ t, mkR mk m j g i t = mk i t := fun t => by simp only [mkR]; rw [if_neg (fun z => hi z.1)]
    rw [e1, e2, e3, e3]
theorem ranks_split {cnt : Nat → Bool} {mk : Nat → Nat → Nat} {n m j s : Nat} {g : Nat → Nat} (hj : j < n) (hs : s < m) : wRanks n m (cntG cnt j) (mkR mk m j g) s = wRanks n m (cntM cnt j false) mk s + sumN (fun o => if o = s then 0 else pt (g s) (g o)) m := by
  unfold wRanks
  rw [sumN_split (f := fun j_1 => if cntG cnt j j_1 then sumN (fun o => if o = s then 0 else pt (mkR mk m j g j_1 s) (mkR mk m j g j_1 o)) m else 0) (g := fun j_1 => if cntM cnt j false j_1 then sumN (fun o => if o = s then 0 else pt (mk j_1 s) (mk j_1 o)) m else 0) (j := j) (fun i hi => ?_) ?_ n, if_pos hj]
  · congr 1
    simp only [cntG, if_pos]
    refine sumN_congr (fun o ho => ?_)
    simp only [mkR, if_pos, true_and, hs, ho]
  · simp [cntM]
  · have e1 : cntG cnt j i = cnt i := by simp only [cntG]; rw [if_neg hi]
    have e2 : cntM cnt j false i = cnt i := by simp only [cntM]; rw [if_neg hi]
    have e3 : ∀ t, mkR mk m j g i t = mk i t := fun t => by simp only [mkR]; rw [if_neg (fun z => hi z.1)]
    rw [e1, e2]
    simp only [e3]
def xa (x : Nat) : Nat := if x = 2 then 1 else 0
def xb (x : Nat) : Nat := if x = 0 then 1 else 0
theorem x_sub {x : Nat} (h : x < 3) : nI x - nI 1 = nI (xa x) - nI (xb x) := by
  have : x = 0 ∨ x = 1 ∨ x = 2 := by omega
  rcases this with rfl | rfl | rfl <;> decide
theorem pt_xa (a b : Nat) : xa (pt a b) = (if b < a then 1 else 0) ∧ xb (pt a b) = if a < b then 1 else 0 := by
  unfold pt
  by_cases h1 : b < a
  · rw [if_pos h1, if_pos h1, if_neg (by omega)]; exact ⟨rfl, rfl⟩
  · rw [if_neg h1, if_neg h1]
    by_cases h2 : a = b
    · rw [if_pos h2, if_neg (by omega)]; exact ⟨rfl, rfl⟩
    · rw [if_neg h2, if_pos (by omega)]; exact ⟨rfl, rfl⟩
/-- the two tables of a judge's reach -/
def rA (V : Vw) (R : Ru) (j p s d : Nat) : Nat := if R.2.1 p = 2 then wRanks (vn V) (vm V) (cntM (vc V) j false) (vk V) s else if R.2.1 p = 3 then 0 else worthW (vn V) (vm V) (cntG (vc V) j) (mkM (vk V) j s d) R p s
def rB (V : Vw) (R : Ru) (j p s o x : Nat) : Nat := pt ((if R.2.1 p = 3 then wMore (vn V) (cntM (vc V) j false) (vk V) s o else 0) + xa x) ((if R.2.1 p = 3 then wMore (vn V) (cntM (vc V) j false) (vk V) o s else 0) + xb x)
def prd (k : Nat) : Bool := decide (k = 2) || decide (k = 3)
def rW (V : Vw) (R : Ru) (j : Nat) (g : Nat → Nat) (p s : Nat) : Nat := worthW (vn V) (vm V) (cntG (vc V) j) (mkR (vk V) (vm V) j g) R p s
theorem rW_eq {V : Vw} {R : Ru} {j p s : Nat} {g : Nat → Nat} (hj : j < vn V) (hs : s < vm V) : rW V R j g p s = rA V R j p s (g s) + (if prd (R.2.1 p) = true then sumN (fun o => if o = s then 0 else rB V R j p s o (pt (g s) (g o))) (vm V) else 0) := by
  by_cases k2 : R.2.1 p = 2
  · have e1 : rW V R j g p s = wRanks (vn V) (vm V) (cntG (vc V) j) (mkR (vk V) (vm V) j g) s := by unfold rW worthW; rw [k2]; rfl
    rw [e1, ranks_split hj hs]
    unfold rA
    rw [if_pos k2, if_pos (by rw [k2]; rfl)]
    congr 1
    refine sumN_congr (fun o ho => ?_)
    by_cases e : o = s
    · rw [if_pos e, if_pos e]
    · rw [if_neg e, if_neg e]
      unfold rB
      rw [if_neg (by omega), if_neg (by omega), Nat.zero_add, Nat.zero_add]
      unfold pt xa xb
      by_cases h1 : g o < g s
      · simp only [if_pos h1]; rfl
      · by_cases h2 : g s = g o
        · simp only [if_neg h1, if_pos h2]; rfl
        · simp only [if_neg h1, if_neg h2]; rfl
  · by_cases k3 : R.2.1 p = 3
    · have e1 : rW V R j g p s = wPairs (vn V) (vm V) (cntG (vc V) j) (mkR (vk V) (vm V) j g) s := by unfold rW worthW; rw [k3]; rfl
      rw [e1]
      unfold rA
      rw [if_neg k2, if_pos k3, if_pos (by rw [k3]; rfl), Nat.zero_add]
      unfold wPairs
      refine sumN_congr (fun o ho => ?_)
      by_cases e : o = s
      · rw [if_pos e, if_pos e]
      · rw [if_neg e, if_neg e, more_split hj hs ho, more_split hj ho hs]
        unfold rB
        rw [if_pos k3, if_pos k3, (pt_xa (g s) (g o)).1, (pt_xa (g s) (g o)).2]
    · unfold rA rW
      rw [if_neg k2, if_neg k3, if_neg (by unfold prd; rw [decide_eq_false k2, decide_eq_false k3]; exact Bool.false_ne_true), Nat.add_zero]
      refine worth_col k2 k3 (fun _ _ => rfl) (fun i hi _ => ?_)
      show (if i = j ∧ s < vm V then g s else vk V i s) = if i = j ∧ s = s then g s else vk V i s
      by_cases e : i = j
      · rw [if_pos ⟨e, hs⟩, if_pos ⟨e, rfl⟩]
      · rw [if_neg (fun z => e z.1), if_neg (fun z => e z.1)]
/-- the next row -/
def dgC (m t s v : Nat) : Bool := if t < m ∧ s < m ∧ v % 6 ^ (m - 1 - t) + 1 = 6 ^ (m - 1 - t) ∧ dig m v t < 5 then decide (dig m (v + 1) s = if s = t then dig m v t + 1 else if t < s then 0 else dig m v s) else true
theorem dgC_ok : ∀ m, m < 5 → ∀ t, t < 4 → ∀ s, s < 4 → ∀ a, a < 36 → ∀ b, b < 36 → dgC m t s (36 * a + b) = true := by decide +kernel
theorem dig_next {m t v s : Nat} (hm : m ≤ 4) (ht : t < m) (hv : v < 1296) (h : v % 6 ^ (m - 1 - t) + 1 = 6 ^ (m - 1 - t)) (h5 : dig m v t < 5) (hs : s < m) : dig m (v + 1) s = if s = t then dig m v t + 1 else if t < s then 0 else dig m v s := by
  have := dgC_ok m (by omega) t (by omega) s (by omega) (v / 36) (by omega) (v % 36) (by omega)
  rw [Nat.div_add_mod] at this
  unfold dgC at this
  rw [if_pos ⟨ht, hs, h, h5⟩] at this
  exact of_decide_eq_true this
