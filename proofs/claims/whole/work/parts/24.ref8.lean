theorem RefV.w {M : MM} {n m : Nat} {cnt : Nat → Bool} {mk : Nat → Nat → Nat} {j s v : Nat} (H : RefV M n m cnt mk) (hj : j < 7) (hs : s < 4) (hv : v ≤ 5) : RefV (q_up M 88 (upd (M 88) (4 * j + s) (nI v))) n m cnt (mkM mk j s v) := by
  obtain ⟨v1, v2, v3, v4, v5, v6, v7⟩ := H
  refine ⟨by rw [q_up_ne _ _ (by decide)]; exact v1, by rw [q_up_ne _ _ (by decide)]; exact v2, v3, v4, by rw [q_up_ne _ _ (by decide)]; exact v5, fun j' hj' s' hs' => ?_, fun j' hj' s' hs' => ?_⟩
  · rw [q_up_at]
    simp only [mkM]
    by_cases e : j' = j ∧ s' = s
    · obtain ⟨rfl, rfl⟩ := e
      rw [upd_at, if_pos ⟨rfl, rfl⟩]
    · rw [upd_ne _ _ (by omega), if_neg e]; exact v6 j' hj' s' hs'
  · simp only [mkM]
    split
    · exact hv
    · exact v7 j' hj' s' hs'
def cntM (cnt : Nat → Bool) (j : Nat) (b : Bool) : Nat → Bool := fun j' => if j' = j then b else cnt j'
theorem RefV.c {M : MM} {n m : Nat} {cnt : Nat → Bool} {mk : Nat → Nat → Nat} {j : Nat} {b : Bool} (H : RefV M n m cnt mk) (hj : j < 7) : RefV (q_up M 89 (upd (M 89) j (nI (b2n b)))) n m (cntM cnt j b) mk := by
  obtain ⟨v1, v2, v3, v4, v5, v6, v7⟩ := H
  refine ⟨by rw [q_up_ne _ _ (by decide)]; exact v1, by rw [q_up_ne _ _ (by decide)]; exact v2, v3, v4, fun j' hj' => ?_, by rw [q_up_ne _ _ (by decide)]; exact v6, v7⟩
  rw [q_up_at]
  simp only [cntM]
  by_cases e : j' = j
  · subst e; rw [upd_at, if_pos rfl]
  · rw [upd_ne _ _ e, if_neg e]; exact v5 j' hj'
theorem RefV.cg {M : MM} {n m : Nat} {cnt cnt' : Nat → Bool} {mk mk' : Nat → Nat → Nat} (H : RefV M n m cnt mk) (h1 : ∀ j, j < 7 → cnt j = cnt' j) (h2 : ∀ j, j < 7 → ∀ s, s < 4 → mk j s = mk' j s) : RefV M n m cnt' mk' := by
  obtain ⟨v1, v2, v3, v4, v5, v6, v7⟩ := H
  exact ⟨v1, v2, v3, v4, fun j hj => by rw [← h1 j hj]; exact v5 j hj, fun j hj s hs => by rw [← h2 j hj s hs]; exact v6 j hj s hs, fun j hj s hs => by rw [← h2 j hj s hs]; exact v7 j hj s hs⟩
def bt (set j : Nat) : Bool := decide (set / 2 ^ j % 2 = 1)
def cntB (cnt : Nat → Bool) (n set : Nat) : Nat → Bool := fun j => if j < n ∧ bt set j = true then true else cnt j
def fv5 (s' s : Nat) : Nat := if s' = s then 5 else 0
def mkB (mk : Nat → Nat → Nat) (n m set s : Nat) : Nat → Nat → Nat := fun j s' => if j < n ∧ bt set j = true ∧ s' < m then fv5 s' s else mk j s'
def plB (V : Vw) (R : Ru) (set s : Nat) : Nat := placeW (worthW (vn V) (vm V) (cntB (vc V) (vn V) set) (mkB (vk V) (vn V) (vm V) set s) R) R.1 (vm V) s
theorem q_bitc {set j : Nat} : set / 2 ^ j % 2 < 2 := Nat.mod_lt _ (by omega)
theorem m_placeBy {M : MM} {V : Vw} {R : Ru} {r set s : Nat} {Q : Option Value → MM → Prop} (I : RefCard M V) (O : VOK V) (hr : r ≤ 3) (hR : RefRu M r R) (hO : RuOK R) (hset : set < 128) (hs : s < vm V)
    (kk : ∀ M', Kp M M' [88, 89, 98, 99] → Q (some (.int (nI (plB V R set s)))) M') : Ca 181 [.ref 83, .int (nI r), .int (nI set), .int (nI s)] M Q := by
  have ho7 := O.2.1
  have ho4 := O.2.2.2.1
  have hk : q_cd 181 = kd_X9_placeBy := rfl
  show WP 181 0 [some (.ref 83), some (.int (nI r)), some (.int (nI set)), some (.int (nI s)), none, none] [] M Q
  repeat (first | refine wp_s hk rfl rfl ?_ | refine wp_goto hk rfl ?_ | refine wp_geti hk rfl rfl rfl rfl ?_ | refine wp_getr hk rfl rfl rfl rfl ?_)
  refine wp_callV hk rfl rfl rfl rfl rfl rfl ?_
  refine m_take I O (fun M0 K0 V0 => ?_)
  repeat (first | refine wp_s hk rfl rfl ?_ | refine wp_goto hk rfl ?_ | refine wp_geti hk rfl rfl rfl rfl ?_ | refine wp_getr hk rfl rfl rfl rfl ?_)
  have loop := q_dn (n := vn V) (P := fun j => ∀ M1 x5, Kp M M1 [88, 89, 98, 99] → RefV M1 (vn V) (vm V) (cntB (vc V) j set) (mkB (vk V) j (vm V) set s) → WP 181 7 [some (.ref 83), some (.int (nI r)), some (.int (nI set)), some (.int (nI s)), some (.int (nI j)), x5] [.int (M1 83 1), .int (nI j)] M1 Q) (by
    intro M1 x5 K1 V1
    refine wp_icgeN hk rfl rfl V1.1 (by first | omega | decide) (by first | omega | decide) (fun _ => ?_) (fun h => absurd h (by omega))
    repeat (first | refine wp_s hk rfl rfl ?_ | refine wp_goto hk rfl ?_ | refine wp_geti hk rfl rfl rfl rfl ?_ | refine wp_getr hk rfl rfl rfl rfl ?_)
    refine wp_callV hk rfl rfl rfl rfl rfl rfl ?_
    refine m_lay V1 hr (hR.kp K1 (by decide) (by decide) (by decide) (by decide)) hO (fun M2 K2 W2 => ?_)
    repeat (first | refine wp_s hk rfl rfl ?_ | refine wp_goto hk rfl ?_ | refine wp_geti hk rfl rfl rfl rfl ?_ | refine wp_getr hk rfl rfl rfl rfl ?_)
    refine wp_callV hk rfl rfl rfl rfl rfl rfl ?_
    refine m_placeOf W2 hr hs ?_
    exact wp_ir hk rfl rfl (kk M2 (K1.tr (K2.mono (by decide))))) (by
    intro j hj ih M1 x5 K1 V1
    refine wp_icgeN hk rfl rfl V1.1 (by first | omega | decide) (by first | omega | decide) (fun h => absurd h (by omega)) (fun _ => ?_)
    repeat (first | refine wp_s hk rfl rfl ?_ | refine wp_goto hk rfl ?_ | refine wp_geti hk rfl rfl rfl rfl ?_ | refine wp_getr hk rfl rfl rfl rfl ?_)
    rw [q_bit set hset j (by omega)]
    have hb2 := q_bitc (set := set) (j := j)
    refine wp_icneN hk rfl rfl rfl (by omega) (by first | omega | decide) (fun g => ?_) (fun g => ?_)
    · repeat (first | refine wp_s hk rfl rfl ?_ | refine wp_goto hk rfl ?_ | refine wp_geti hk rfl rfl rfl rfl ?_ | refine wp_getr hk rfl rfl rfl rfl ?_)
      rw [q_nadd j 1]
      have hb : bt set j = false := decide_eq_false g
      refine ih M1 _ K1 (V1.cg (fun j' hj' => ?_) (fun j' hj' s' hs' => ?_))
      · simp only [cntB]
        by_cases e : j' = j
        · subst e; rw [if_neg (by omega), if_neg (by rw [hb]; simp)]
        · by_cases e2 : j' < j ∧ bt set j' = true
          · rw [if_pos e2, if_pos ⟨by omega, e2.2⟩]
          · rw [if_neg e2, if_neg (fun z => e2 ⟨by omega, z.2⟩)]
      · simp only [mkB]
        by_cases e : j' = j
        · subst e; rw [if_neg (by omega), if_neg (by rw [hb]; simp)]
        · by_cases e2 : j' < j ∧ bt set j' = true ∧ s' < vm V
          · rw [if_pos e2, if_pos ⟨by omega, e2.2⟩]
          · rw [if_neg e2, if_neg (fun z => e2 ⟨by omega, z.2⟩)]
    · have hb : bt set j = true := decide_eq_true (Classical.not_not.mp g)
      repeat (first | refine wp_s hk rfl rfl ?_ | refine wp_goto hk rfl ?_ | refine wp_geti hk rfl rfl rfl rfl ?_ | refine wp_getr hk rfl rfl rfl rfl ?_)
      refine wp_bst (jx := j) hk rfl rfl rfl (by omega) (Or.inr (by decide)) ?_
      have V2 := V1.c (j := j) (b := true) (by omega)
      have K2 : Kp M (q_up M1 89 (upd (M1 89) j (nI 1))) [88, 89, 98, 99] := K1.up (by decide)
      change RefV (q_up M1 89 (upd (M1 89) j (nI 1))) _ _ _ _ at V2
      generalize q_up M1 89 (upd (M1 89) j (nI 1)) = M2 at V2 K2 ⊢
      repeat (first | refine wp_s hk rfl rfl ?_ | refine wp_goto hk rfl ?_ | refine wp_geti hk rfl rfl rfl rfl ?_ | refine wp_getr hk rfl rfl rfl rfl ?_)
      have inner := q_dn (n := vm V) (P := fun t => ∀ M3, Kp M M3 [88, 89, 98, 99] → RefV M3 (vn V) (vm V) (cntM (cntB (vc V) j set) j true) (fun j' s' => if j' = j ∧ s' < t then fv5 s' s else mkB (vk V) j (vm V) set s j' s') → WP 181 25 [some (.ref 83), some (.int (nI r)), some (.int (nI set)), some (.int (nI s)), some (.int (nI j)), some (.int (nI t))] [.int (M3 83 2), .int (nI t)] M3 Q) (by
        intro M3 K3 V3
        refine wp_icgeN hk rfl rfl V3.2.1 (by first | omega | decide) (by first | omega | decide) (fun _ => ?_) (fun h => absurd h (by omega))
        repeat (first | refine wp_s hk rfl rfl ?_ | refine wp_goto hk rfl ?_ | refine wp_geti hk rfl rfl rfl rfl ?_ | refine wp_getr hk rfl rfl rfl rfl ?_)
        rw [q_nadd j 1]
        refine ih M3 _ K3 (V3.cg (fun j' hj' => ?_) (fun j' hj' s' hs' => ?_))
        · simp only [cntM, cntB]
          by_cases e : j' = j
          · subst e; rw [if_pos rfl, if_pos ⟨by omega, hb⟩]
          · rw [if_neg e]
            by_cases e2 : j' < j ∧ bt set j' = true
            · rw [if_pos e2, if_pos ⟨by omega, e2.2⟩]
            · rw [if_neg e2, if_neg (fun z => e2 ⟨by omega, z.2⟩)]
        · simp only [mkB]
          by_cases e : j' = j
          · subst e
            by_cases e3 : s' < vm V
            · rw [if_pos ⟨rfl, e3⟩, if_pos ⟨by omega, hb, e3⟩]
            · rw [if_neg (fun z => e3 z.2), if_neg (by omega), if_neg (fun z => e3 z.2.2)]
          · rw [if_neg (fun z => e z.1)]
            by_cases e2 : j' < j ∧ bt set j' = true ∧ s' < vm V
            · rw [if_pos e2, if_pos ⟨by omega, e2.2⟩]
            · rw [if_neg e2, if_neg (fun z => e2 ⟨by omega, z.2⟩)]) (by
        intro t ht iht M3 K3 V3
        refine wp_icgeN hk rfl rfl V3.2.1 (by first | omega | decide) (by first | omega | decide) (fun h => absurd h (by omega)) (fun _ => ?_)
        repeat (first | refine wp_s hk rfl rfl ?_ | refine wp_goto hk rfl ?_ | refine wp_geti hk rfl rfl rfl rfl ?_ | refine wp_getr hk rfl rfl rfl rfl ?_)
        have fin : ∀ z, z = fv5 t s → WP 181 39 [some (.ref 83), some (.int (nI r)), some (.int (nI set)), some (.int (nI s)), some (.int (nI j)), some (.int (nI t))] [.int (nI z), .int (nI 4 * nI j + nI t), .ref 88] M3 Q := by
          intro z hz
          refine wp_ast (jx := 4 * j + t) hk rfl rfl (by simp only [q_nadd, q_nmul]) (by omega) ?_
          repeat (first | refine wp_s hk rfl rfl ?_ | refine wp_goto hk rfl ?_ | refine wp_geti hk rfl rfl rfl rfl ?_ | refine wp_getr hk rfl rfl rfl rfl ?_)
          rw [q_nadd t 1]
          have hz5 : z ≤ 5 := by rw [hz]; unfold fv5; split <;> omega
          refine iht _ (K3.up (by decide)) ((V3.w (j := j) (s := t) (v := z) (by omega) (by omega) hz5).cg (fun _ _ => rfl) (fun j' hj' s' hs' => ?_))
          simp only [mkM]
          by_cases e : j' = j ∧ s' = t
          · obtain ⟨rfl, rfl⟩ := e
            rw [if_pos ⟨rfl, rfl⟩, if_pos ⟨rfl, by omega⟩, hz]
          · rw [if_neg e]
            by_cases e2 : j' = j ∧ s' < t
            · rw [if_pos e2, if_pos ⟨e2.1, by omega⟩]
            · rw [if_neg e2, if_neg (by omega)]
        refine wp_icneN (u := t) (v := s) hk rfl rfl rfl (by omega) (by omega) (fun g => ?_) (fun g => ?_)
        · refine wp_s hk rfl rfl ?_
          exact fin 0 (by unfold fv5; rw [if_neg g])
        · refine wp_s hk rfl rfl ?_
          refine wp_goto hk rfl ?_
          exact fin 5 (by unfold fv5; rw [if_pos (by omega)]))
      exact inner 0 (Nat.zero_le _) M2 K2 (V2.cg (fun _ _ => rfl) (fun j' hj' s' hs' => by simp only [if_neg (show ¬ (j' = j ∧ s' < 0) by omega)])))
  exact loop 0 (Nat.zero_le _) M0 _ (K0.mono (by decide)) (V0.cg (fun j' _ => by simp only [cntB]; rw [if_neg (by omega)]) (fun j' _ s' _ => by simp only [mkB]; rw [if_neg (by omega)]))
theorem pow_n {n : Nat} (h : n ≤ 7) : 2 ^ n ≤ 128 := Nat.pow_le_pow_right (by omega) h
def spBloc (S : St) (a b c : Int32) : Int32 := if isN a 3 && isN c (vm (sV S)) then (if isN b (2 ^ vn (sV S)) then nI (plB (sV S) (sR S (i2n a)) (i2n b) (i2n c)) else BAD) else UNK
theorem m_bloc {M : MM} {S : St} {a b c : Int32} {Q : Option Value → MM → Prop} (I : RefInv M S) (O : StOK S) (kk : ∀ M', RFr M M' → Q (some (.int (spBloc S a b c))) M') : Ca 182 [.ref 83, .int a, .int b, .int c] M Q := by
  have hk : q_cd 182 = kd_X9_bloc := rfl
  show WP 182 0 [some (.ref 83), some (.int a), some (.int b), some (.int c)] [] M Q
  have ho4 := O.1.2.2.2.1
  have ho7 := O.1.2.1
  have hp := pow_n ho7
  repeat (first | refine wp_s hk rfl rfl ?_ | refine wp_goto hk rfl ?_ | refine wp_geti hk rfl rfl rfl rfl ?_ | refine wp_getr hk rfl rfl rfl rfl ?_)
  refine wp_th hk rfl (fun M0 F0 => ?_)
  have I0 := I.fr O F0
  repeat (first | refine wp_s hk rfl rfl ?_ | refine wp_goto hk rfl ?_ | refine wp_geti hk rfl rfl rfl rfl ?_ | refine wp_getr hk rfl rfl rfl rfl ?_)
  refine wp_callS hk rfl rfl rfl rfl ?_
  refine m_noRule ?_
  refine wp_ifneB (u := !isN a 3) hk rfl rfl (fun h => ?_) (fun h => ?_)
  · have h' : isN a 3 = false := by simpa using h
    repeat (first | refine wp_s hk rfl rfl ?_ | refine wp_goto hk rfl ?_ | refine wp_geti hk rfl rfl rfl rfl ?_ | refine wp_getr hk rfl rfl rfl rfl ?_)
    refine wp_ir hk rfl rfl ?_
    have hkk := kk M0 F0
    simp only [spBloc, h', Bool.and_self, Bool.true_and, Bool.and_true, Bool.false_and, Bool.and_false, if_true, Bool.false_eq_true, if_false, Bool.not_true, Bool.not_false] at hkk
    exact hkk
  have h' : isN a 3 = true := by simpa using h
  repeat (first | refine wp_s hk rfl rfl ?_ | refine wp_goto hk rfl ?_ | refine wp_geti hk rfl rfl rfl rfl ?_ | refine wp_getr hk rfl rfl rfl rfl ?_)
  refine wp_callV hk rfl rfl rfl rfl rfl rfl ?_
  refine m_noSkater I0.1.2.1 O.1.2.2.1 (by omega) ?_
  refine wp_ifeqB (u := !isN c (vm (sV S))) hk rfl rfl (fun k => ?_) (fun k => ?_)
  · have k' : isN c (vm (sV S)) = true := by simpa using k
    repeat (first | refine wp_s hk rfl rfl ?_ | refine wp_goto hk rfl ?_ | refine wp_geti hk rfl rfl rfl rfl ?_ | refine wp_getr hk rfl rfl rfl rfl ?_)
    refine wp_callV hk rfl rfl rfl rfl rfl rfl ?_
    refine m_noSet I0.1.1 O.1.1 ho7 ?_
    refine wp_ifeqB (u := !isN b (2 ^ vn (sV S))) hk rfl rfl (fun f => ?_) (fun f => ?_)
    · have f' : isN b (2 ^ vn (sV S)) = true := by simpa using f
      obtain ⟨hr, ea⟩ := i2n_of (by omega) h'
      obtain ⟨hj, eb⟩ := i2n_of (by omega) f'
      obtain ⟨hs, ec⟩ := i2n_of (by omega) k'
      repeat (first | refine wp_s hk rfl rfl ?_ | refine wp_goto hk rfl ?_ | refine wp_geti hk rfl rfl rfl rfl ?_ | refine wp_getr hk rfl rfl rfl rfl ?_)
      rw [ea, eb, ec]
      refine wp_callV hk rfl rfl rfl rfl rfl rfl ?_
      refine m_placeBy I0.1 O.1 (by omega) (I0.2.2.1.1 _ hr) (O.2.2.1 _ hr) (by omega) hs (fun M1 K1 => ?_)
      refine wp_ir hk rfl rfl ?_
      have hkk := kk M1 (F0.tr (RFr.kp K1))
      simp only [spBloc, h', f', k', Bool.and_self, Bool.true_and, Bool.and_true, Bool.false_and, Bool.and_false, if_true, Bool.false_eq_true, if_false, Bool.not_true, Bool.not_false] at hkk
      exact hkk
    · have f' : isN b (2 ^ vn (sV S)) = false := by simpa using f
      repeat (first | refine wp_s hk rfl rfl ?_ | refine wp_goto hk rfl ?_ | refine wp_geti hk rfl rfl rfl rfl ?_ | refine wp_getr hk rfl rfl rfl rfl ?_)
      refine wp_ir hk rfl rfl ?_
      have hkk := kk M0 F0
      simp only [spBloc, h', f', k', Bool.and_self, Bool.true_and, Bool.and_true, Bool.false_and, Bool.and_false, if_true, Bool.false_eq_true, if_false, Bool.not_true, Bool.not_false] at hkk
      exact hkk
  · have k' : isN c (vm (sV S)) = false := by simpa using k
    repeat (first | refine wp_s hk rfl rfl ?_ | refine wp_goto hk rfl ?_ | refine wp_geti hk rfl rfl rfl rfl ?_ | refine wp_getr hk rfl rfl rfl rfl ?_)
    refine wp_ir hk rfl rfl ?_
    have hkk := kk M0 F0
    simp only [spBloc, h', k', Bool.and_self, Bool.true_and, Bool.and_true, Bool.false_and, Bool.and_false, if_true, Bool.false_eq_true, if_false, Bool.not_true, Bool.not_false] at hkk
    exact hkk
/-- between two numbers -/
def isR (x : Int32) (lo hi : Nat) : Bool := decide (nI lo ≤ x) && decide (x ≤ nI hi)
theorem isR_of {x : Int32} {lo hi : Nat} (h1 : lo < 2 ^ 31) (h2 : hi < 2 ^ 31) (h : isR x lo hi = true) : lo ≤ i2n x ∧ i2n x ≤ hi ∧ x = nI (i2n x) := by
  simp only [isR, Bool.and_eq_true, decide_eq_true_eq] at h
  have e1 : (lo : Int) ≤ x.toInt := by have := Int32.le_iff_toInt_le.mp h.1; rwa [q_toInt h1] at this
  have e2 : x.toInt ≤ hi := by have := Int32.le_iff_toInt_le.mp h.2; rwa [q_toInt h2] at this
  have e3 : x = nI x.toInt.toNat := by rw [← Int32.toInt_inj, q_toInt (by omega)]; omega
  have e4 : i2n x = x.toInt.toNat := by
    have h4 := i2n_nI (n := x.toInt.toNat) (by omega)
    rw [← e3] at h4
    exact h4
  rw [e4]
  exact ⟨by omega, by omega, e3⟩
theorem q_in64v {x : Int32} {lo hi : Nat} (h1 : lo < 2 ^ 31) (h2 : hi < 2 ^ 31) : (decide (Int64.ofNat lo ≤ x.toInt64) && decide (x.toInt64 ≤ (nI hi).toInt64)) = isR x lo hi := by
  have e1 : (Int64.ofNat lo).toInt = (lo : Int) := Int64.toInt_ofNat_of_lt (by omega)
  have e3 : x.toInt64.toInt = x.toInt := Int32.toInt_toInt64 x
  have e4 : (nI hi).toInt64.toInt = (hi : Int) := by rw [Int32.toInt_toInt64, q_toInt h2]
  unfold isR
  congr 1
  · rw [decide_eq_decide, Int64.le_iff_toInt_le, Int32.le_iff_toInt_le, e1, e3, q_toInt h1]
  · rw [decide_eq_decide, Int64.le_iff_toInt_le, Int32.le_iff_toInt_le, e4, e3, q_toInt h2]
/-- the first set of the fewest that does -/
def fwW (ok : Nat → Bool) : Nat → Option Nat
  | 0 => none
  | x + 1 => if (match fwW ok x with | none => true | some f => decide (popW x < popW f)) && ok x then some x else fwW ok x
theorem fwW_lt {ok : Nat → Bool} : ∀ {x f : Nat}, fwW ok x = some f → f < x
  | 0, f, h => by cases h
  | x + 1, f, h => by
    simp only [fwW] at h
    by_cases hc : ((match fwW ok x with | none => true | some f => decide (popW x < popW f)) && ok x) = true
    · rw [if_pos hc] at h; cases h; omega
    · rw [if_neg hc] at h; have := fwW_lt h; omega
def fwV (o : Option Nat) : Int32 := match o with
  | some f => nI f
  | none => NON
theorem q_non : ∀ x, x < 128 → ¬ nI x = NON := by decide +kernel
def spFew (S : St) (a b c : Int32) : Int32 := if isN a 3 && isN b (vm (sV S)) then (if isR c 1 4 then fwV (fwW (fun set => decide (plB (sV S) (sR S (i2n a)) set (i2n b) ≤ i2n c)) (2 ^ vn (sV S))) else BAD) else UNK
theorem m_few {M : MM} {S : St} {a b c : Int32} {Q : Option Value → MM → Prop} (I : RefInv M S) (O : StOK S) (kk : ∀ M', RFr M M' → Q (some (.int (spFew S a b c))) M') : Ca 183 [.ref 83, .int a, .int b, .int c] M Q := by
  have hk : q_cd 183 = kd_X9_few := rfl
  show WP 183 0 [some (.ref 83), some (.int a), some (.int b), some (.int c), none, none, none] [] M Q
  have ho4 := O.1.2.2.2.1
  have ho7 := O.1.2.1
  have hp := pow_n ho7
  repeat (first | refine wp_s hk rfl rfl ?_ | refine wp_goto hk rfl ?_ | refine wp_geti hk rfl rfl rfl rfl ?_ | refine wp_getr hk rfl rfl rfl rfl ?_)
  refine wp_th hk rfl (fun M0 F0 => ?_)
  have I0 := I.fr O F0
  repeat (first | refine wp_s hk rfl rfl ?_ | refine wp_goto hk rfl ?_ | refine wp_geti hk rfl rfl rfl rfl ?_ | refine wp_getr hk rfl rfl rfl rfl ?_)
  refine wp_callS hk rfl rfl rfl rfl ?_
  refine m_noRule ?_
  refine wp_ifneB (u := !isN a 3) hk rfl rfl (fun h => ?_) (fun h => ?_)
  · have h' : isN a 3 = false := by simpa using h
    repeat (first | refine wp_s hk rfl rfl ?_ | refine wp_goto hk rfl ?_ | refine wp_geti hk rfl rfl rfl rfl ?_ | refine wp_getr hk rfl rfl rfl rfl ?_)
    refine wp_ir hk rfl rfl ?_
    have hkk := kk M0 F0
    simp only [spFew, h', Bool.and_self, Bool.true_and, Bool.and_true, Bool.false_and, Bool.and_false, if_true, Bool.false_eq_true, if_false, Bool.not_true, Bool.not_false] at hkk
    exact hkk
  have h' : isN a 3 = true := by simpa using h
  repeat (first | refine wp_s hk rfl rfl ?_ | refine wp_goto hk rfl ?_ | refine wp_geti hk rfl rfl rfl rfl ?_ | refine wp_getr hk rfl rfl rfl rfl ?_)
  refine wp_callV hk rfl rfl rfl rfl rfl rfl ?_
  refine m_noSkater I0.1.2.1 O.1.2.2.1 (by omega) ?_
  refine wp_ifeqB (u := !isN b (vm (sV S))) hk rfl rfl (fun k => ?_) (fun k => ?_)
  · have k' : isN b (vm (sV S)) = true := by simpa using k
    repeat (first | refine wp_s hk rfl rfl ?_ | refine wp_goto hk rfl ?_ | refine wp_geti hk rfl rfl rfl rfl ?_ | refine wp_getr hk rfl rfl rfl rfl ?_)
    refine wp_callS hk rfl rfl rfl rfl ?_
    refine m_in ?_
    refine wp_ifneB (u := isR c 1 4) hk rfl (congrArg (fun z => nI (b2n z)) (q_in64 (by omega) (by omega))) (fun f => ?_) (fun f => ?_)
    · obtain ⟨hr, ea⟩ := i2n_of (by omega) h'
      obtain ⟨hs, eb⟩ := i2n_of (by omega) k'
      obtain ⟨hc1, hc4, ec⟩ := isR_of (by omega) (by omega) f
      rw [ea, eb, ec]
      have hkk := fun M' F => kk M' F
      simp only [spFew, h', k', f, Bool.and_self, if_true] at hkk
      repeat (first | refine wp_s hk rfl rfl ?_ | refine wp_goto hk rfl ?_ | refine wp_geti hk rfl rfl rfl rfl ?_ | refine wp_getr hk rfl rfl rfl rfl ?_)
      have loop := q_dn (n := 2 ^ vn (sV S)) (P := fun x => ∀ M1 x6, Kp M0 M1 [88, 89, 98, 99] → WP 183 29 [some (.ref 83), some (.int (nI (i2n a))), some (.int (nI (i2n b))), some (.int (nI (i2n c))), some (.int (fwV (fwW (fun set => decide (plB (sV S) (sR S (i2n a)) set (i2n b) ≤ i2n c)) x))), some (.int (nI x)), x6] [.int (nI 1 <<< (M1 83 1 &&& 31)), .int (nI x)] M1 Q) (by
        intro M1 x6 K1
        have I1 := I0.1.kp K1 (by decide) (by decide) (by decide) (by decide) (by decide)
        rw [I1.1, q_shl1 _ (by omega)]
        refine wp_icgeN hk rfl rfl rfl (by first | omega | decide) (by first | omega | decide) (fun _ => ?_) (fun h => absurd h (by omega))
        repeat (first | refine wp_s hk rfl rfl ?_ | refine wp_goto hk rfl ?_ | refine wp_geti hk rfl rfl rfl rfl ?_ | refine wp_getr hk rfl rfl rfl rfl ?_)
        exact wp_ir hk rfl rfl (hkk M1 (F0.tr (RFr.kp K1)))) (by
        intro x hx ih M1 x6 K1
        have I1 := I0.1.kp K1 (by decide) (by decide) (by decide) (by decide) (by decide)
        have R1 := (I0.2.2.1.1 _ hr).kp K1 (by decide) (by decide) (by decide) (by decide)
        rw [I1.1, q_shl1 _ (by omega)]
        refine wp_icgeN hk rfl rfl rfl (by first | omega | decide) (by first | omega | decide) (fun h => absurd h (by omega)) (fun _ => ?_)
        simp only [fwW] at ih
        have skip : ∀ x6, ((match fwW (fun set => decide (plB (sV S) (sR S (i2n a)) set (i2n b) ≤ i2n c)) x with | none => true | some f => decide (popW x < popW f)) && decide (plB (sV S) (sR S (i2n a)) x (i2n b) ≤ i2n c)) = false → ∀ M2, Kp M0 M2 [88, 89, 98, 99] → WP 183 53 [some (.ref 83), some (.int (nI (i2n a))), some (.int (nI (i2n b))), some (.int (nI (i2n c))), some (.int (fwV (fwW (fun set => decide (plB (sV S) (sR S (i2n a)) set (i2n b) ≤ i2n c)) x))), some (.int (nI x)), x6] [] M2 Q := by
          intro x6 hz M2 K2
          have := ih M2 x6 K2
          rw [if_neg (by rw [hz]; exact Bool.false_ne_true)] at this
          repeat (first | refine wp_s hk rfl rfl ?_ | refine wp_goto hk rfl ?_ | refine wp_geti hk rfl rfl rfl rfl ?_ | refine wp_getr hk rfl rfl rfl rfl ?_)
          rw [q_nadd x 1]
          exact this
        have tryit : (match fwW (fun set => decide (plB (sV S) (sR S (i2n a)) set (i2n b) ≤ i2n c)) x with | none => true | some f => decide (popW x < popW f)) = true → ∀ x6, WP 183 38 [some (.ref 83), some (.int (nI (i2n a))), some (.int (nI (i2n b))), some (.int (nI (i2n c))), some (.int (fwV (fwW (fun set => decide (plB (sV S) (sR S (i2n a)) set (i2n b) ≤ i2n c)) x))), some (.int (nI x)), x6] [] M1 Q := by
          intro hz x6
          repeat (first | refine wp_s hk rfl rfl ?_ | refine wp_goto hk rfl ?_ | refine wp_geti hk rfl rfl rfl rfl ?_ | refine wp_getr hk rfl rfl rfl rfl ?_)
          refine wp_ifeqB (u := true) hk rfl rfl (fun z => by cases z) (fun _ => ?_)
          repeat (first | refine wp_s hk rfl rfl ?_ | refine wp_goto hk rfl ?_ | refine wp_geti hk rfl rfl rfl rfl ?_ | refine wp_getr hk rfl rfl rfl rfl ?_)
          refine wp_callV hk rfl rfl rfl rfl rfl rfl ?_
          refine m_placeBy I1 O.1 (by omega) R1 (O.2.2.1 _ hr) (by omega) hs (fun M2 K2 => ?_)
          have hple : plB (sV S) (sR S (i2n a)) x (i2n b) ≤ 1 + vm (sV S) := placeW_le
          have K12 := K1.tr K2
          repeat (first | refine wp_s hk rfl rfl ?_ | refine wp_goto hk rfl ?_ | refine wp_geti hk rfl rfl rfl rfl ?_ | refine wp_getr hk rfl rfl rfl rfl ?_)
          refine wp_icgtN (u := plB (sV S) (sR S (i2n a)) x (i2n b)) (v := i2n c) hk rfl rfl rfl (by omega) (by omega) (fun g => ?_) (fun g => ?_)
          · exact skip _ (by rw [decide_eq_false (Nat.not_le.mpr g), Bool.and_false]) M2 K12
          · repeat (first | refine wp_s hk rfl rfl ?_ | refine wp_goto hk rfl ?_ | refine wp_geti hk rfl rfl rfl rfl ?_ | refine wp_getr hk rfl rfl rfl rfl ?_)
            have := ih M2 (some (.int (nI 1))) K12
            rw [if_pos (by rw [hz, decide_eq_true (Nat.not_lt.mp g)]; rfl)] at this
            rw [q_nadd x 1]
            exact this
        repeat (first | refine wp_s hk rfl rfl ?_ | refine wp_goto hk rfl ?_ | refine wp_geti hk rfl rfl rfl rfl ?_ | refine wp_getr hk rfl rfl rfl rfl ?_)
        cases hf : fwW (fun set => decide (plB (sV S) (sR S (i2n a)) set (i2n b) ≤ i2n c)) x with
        | none =>
          rw [hf] at tryit
          refine wp_iceq hk rfl (fun _ => ?_) (fun z => absurd rfl z)
          exact tryit rfl _
        | some f =>
          have hfl := fwW_lt hf
          rw [hf] at tryit skip
          refine wp_iceq hk rfl (fun z => absurd z (q_non f (by omega))) (fun _ => ?_)
          repeat (first | refine wp_s hk rfl rfl ?_ | refine wp_goto hk rfl ?_ | refine wp_geti hk rfl rfl rfl rfl ?_ | refine wp_getr hk rfl rfl rfl rfl ?_)
          refine wp_callS hk rfl rfl rfl rfl ?_
          refine m_many (by omega) ?_
          repeat (first | refine wp_s hk rfl rfl ?_ | refine wp_goto hk rfl ?_ | refine wp_geti hk rfl rfl rfl rfl ?_ | refine wp_getr hk rfl rfl rfl rfl ?_)
          refine wp_callS hk rfl rfl rfl rfl ?_
          refine m_many (x := f) (by omega) ?_
          have l1 := popW_le x
          have l2 := popW_le f
          refine wp_icgeN (u := popW x) (v := popW f) hk rfl rfl rfl (by omega) (by omega) (fun g => ?_) (fun g => ?_)
          · repeat (first | refine wp_s hk rfl rfl ?_ | refine wp_goto hk rfl ?_ | refine wp_geti hk rfl rfl rfl rfl ?_ | refine wp_getr hk rfl rfl rfl rfl ?_)
            refine wp_ifeqB (u := false) hk rfl rfl (fun _ => ?_) (fun z => by cases z)
            exact skip _ (by simp only [decide_eq_false (Nat.not_lt.mpr g), Bool.false_and]) M1 K1
          · exact tryit (decide_eq_true (Nat.lt_of_not_le g)) _)
      exact loop 0 (Nat.zero_le _) M0 _ (Kp.rf _ _)
    · repeat (first | refine wp_s hk rfl rfl ?_ | refine wp_goto hk rfl ?_ | refine wp_geti hk rfl rfl rfl rfl ?_ | refine wp_getr hk rfl rfl rfl rfl ?_)
      refine wp_ir hk rfl rfl ?_
      have hkk := kk M0 F0
      simp only [spFew, h', k', f, Bool.and_self, Bool.true_and, Bool.and_true, Bool.false_and, Bool.and_false, if_true, Bool.false_eq_true, if_false, Bool.not_true, Bool.not_false] at hkk
      exact hkk
  · have k' : isN b (vm (sV S)) = false := by simpa using k
    repeat (first | refine wp_s hk rfl rfl ?_ | refine wp_goto hk rfl ?_ | refine wp_geti hk rfl rfl rfl rfl ?_ | refine wp_getr hk rfl rfl rfl rfl ?_)
    refine wp_ir hk rfl rfl ?_
    have hkk := kk M0 F0
    simp only [spFew, h', k', Bool.and_self, Bool.true_and, Bool.and_true, Bool.false_and, Bool.and_false, if_true, Bool.false_eq_true, if_false, Bool.not_true, Bool.not_false] at hkk
    exact hkk
