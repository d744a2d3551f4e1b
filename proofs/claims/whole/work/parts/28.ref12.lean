def sumI (f : Nat → Int32) : Nat → Int32
  | 0 => nI 0
  | n + 1 => sumI f n + f n
/-- how far a judge leans: one other's mark -/
def lnB (V : Vw) (j f s k : Nat) : Bool := !decide (k = j) && (vc V k && decide (vs V s = f))
def lnG (V : Vw) (j f s k : Nat) : Int32 := if lnB V j f s k = true then nI (vk V j s) - nI (vk V k s) else nI 0
def leanV (V : Vw) (j f : Nat) : Int32 := if vc V j = true then sumI (fun s => sumI (lnG V j f s) 7) (vm V) else nI 0
theorem m_stood {M : MM} {V : Vw} {i j : Nat} {Q : Option Value → MM → Prop} (P : RefPast M i V) (O : VOK V) (hi : i < 8) (hj : j < 7) (kk : Q (some (.int (nI (b2n (vc V j))))) M) : Ca 191 [.ref 83, .int (nI i), .int (nI j)] M Q := by
  have ho7 := O.2.1
  have hk : q_cd 191 = kd_X9_stood := rfl
  show WP 191 0 [some (.ref 83), some (.int (nI i)), some (.int (nI j))] [] M Q
  repeat (first | refine wp_s hk rfl rfl ?_ | refine wp_goto hk rfl ?_ | refine wp_geti hk rfl rfl rfl rfl ?_ | refine wp_getr hk rfl rfl rfl rfl ?_)
  refine wp_ald (jx := i) hk rfl rfl rfl (by omega) ?_
  rw [P.1]
  refine wp_icgeN (u := j) (v := vn V) hk rfl rfl rfl (by omega) (by omega) (fun g => ?_) (fun g => ?_)
  · rw [show vc V j = false by simp [vc, Nat.not_lt.mpr g]] at kk
    repeat (first | refine wp_s hk rfl rfl ?_ | refine wp_goto hk rfl ?_ | refine wp_geti hk rfl rfl rfl rfl ?_ | refine wp_getr hk rfl rfl rfl rfl ?_)
    exact wp_ir hk rfl rfl kk
  · rw [vc_b2n (Nat.lt_of_not_le g)] at kk
    repeat (first | refine wp_s hk rfl rfl ?_ | refine wp_goto hk rfl ?_ | refine wp_geti hk rfl rfl rfl rfl ?_ | refine wp_getr hk rfl rfl rfl rfl ?_)
    refine wp_bld (jx := 7 * i + j) hk rfl rfl (by simp only [q_nadd, q_nmul]) (by omega) ?_
    refine wp_ifneB hk rfl (P.2.2.2.2.2 j hj) (fun z => ?_) (fun z => ?_) <;> rw [z] at kk
    · repeat (first | refine wp_s hk rfl rfl ?_ | refine wp_goto hk rfl ?_ | refine wp_geti hk rfl rfl rfl rfl ?_ | refine wp_getr hk rfl rfl rfl rfl ?_)
      exact wp_ir hk rfl rfl kk
    · repeat (first | refine wp_s hk rfl rfl ?_ | refine wp_goto hk rfl ?_ | refine wp_geti hk rfl rfl rfl rfl ?_ | refine wp_getr hk rfl rfl rfl rfl ?_)
      exact wp_ir hk rfl rfl kk
theorem m_leanIn {M : MM} {V : Vw} {i j f : Nat} {Q : Option Value → MM → Prop} (P : RefPast M i V) (O : VOK V) (hi : i < 8) (hj : j < 7) (hf : f ≤ 3) (kk : Q (some (.int (leanV V j f))) M) : Ca 192 [.ref 83, .int (nI i), .int (nI j), .int (nI f)] M Q := by
  have ho7 := O.2.1
  have ho1 := O.2.2.1
  have ho4 := O.2.2.2.1
  have hl2 := O.2.2.2.2.2.2.2
  have hk : q_cd 192 = kd_X9_leanIn := rfl
  show WP 192 0 [some (.ref 83), some (.int (nI i)), some (.int (nI j)), some (.int (nI f)), none, none, none, none] [] M Q
  unfold leanV at kk
  cases hc : vc V j with
  | false =>
    rw [if_neg (by rw [hc]; exact Bool.false_ne_true)] at kk
    repeat (first | refine wp_s hk rfl rfl ?_ | refine wp_goto hk rfl ?_ | refine wp_geti hk rfl rfl rfl rfl ?_ | refine wp_getr hk rfl rfl rfl rfl ?_)
    refine wp_ald (jx := i) hk rfl rfl rfl (by omega) ?_
    rw [P.2.1]
    refine wp_icgeN (u := 0) (v := vm V) hk rfl rfl rfl (by omega) (by omega) (fun g => absurd g (by omega)) (fun _ => ?_)
    repeat (first | refine wp_s hk rfl rfl ?_ | refine wp_goto hk rfl ?_ | refine wp_geti hk rfl rfl rfl rfl ?_ | refine wp_getr hk rfl rfl rfl rfl ?_)
    refine wp_callV hk rfl rfl rfl rfl rfl rfl ?_
    refine m_stood P O hi hj ?_
    rw [hc]
    refine wp_ifeqB (u := false) hk rfl rfl (fun _ => ?_) (fun z => by cases z)
    repeat (first | refine wp_s hk rfl rfl ?_ | refine wp_goto hk rfl ?_ | refine wp_geti hk rfl rfl rfl rfl ?_ | refine wp_getr hk rfl rfl rfl rfl ?_)
    exact wp_ir hk rfl rfl kk
  | true =>
    rw [if_pos hc] at kk
    have loop := q_dn (n := vm V) (P := fun s => ∀ x6 x7, WP 192 8 [some (.ref 83), some (.int (nI i)), some (.int (nI j)), some (.int (nI f)), some (.int (sumI (fun s => sumI (lnG V j f s) 7) s)), some (.int (nI s)), x6, x7] [.int (nI i), .ref 102, .int (nI s)] M Q) (by
      intro x6 x7
      refine wp_ald (jx := i) hk rfl rfl rfl (by omega) ?_
      rw [P.2.1]
      refine wp_icgeN (u := vm V) (v := vm V) hk rfl rfl rfl (by omega) (by omega) (fun _ => ?_) (fun g => absurd g (by omega))
      repeat (first | refine wp_s hk rfl rfl ?_ | refine wp_goto hk rfl ?_ | refine wp_geti hk rfl rfl rfl rfl ?_ | refine wp_getr hk rfl rfl rfl rfl ?_)
      exact wp_ir hk rfl rfl kk) (by
      intro s hs ih x6 x7
      simp only [sumI] at ih
      refine wp_ald (jx := i) hk rfl rfl rfl (by omega) ?_
      rw [P.2.1]
      refine wp_icgeN (u := s) (v := vm V) hk rfl rfl rfl (by omega) (by omega) (fun g => absurd g (by omega)) (fun _ => ?_)
      repeat (first | refine wp_s hk rfl rfl ?_ | refine wp_goto hk rfl ?_ | refine wp_geti hk rfl rfl rfl rfl ?_ | refine wp_getr hk rfl rfl rfl rfl ?_)
      refine wp_callV hk rfl rfl rfl rfl rfl rfl ?_
      refine m_stood P O hi hj ?_
      rw [hc]
      refine wp_ifeqB (u := true) hk rfl rfl (fun z => by cases z) (fun _ => ?_)
      have inner := q_dn (n := 7) (P := fun k => ∀ x7, WP 192 19 [some (.ref 83), some (.int (nI i)), some (.int (nI j)), some (.int (nI f)), some (.int (sumI (fun s => sumI (lnG V j f s) 7) s + sumI (lnG V j f s) k)), some (.int (nI s)), some (.int (nI k)), x7] [.int (nI 7), .int (nI k)] M Q) (by
        intro x7
        refine wp_icgeN (u := 7) (v := 7) hk rfl rfl rfl (by omega) (by omega) (fun _ => ?_) (fun g => absurd g (by omega))
        repeat (first | refine wp_s hk rfl rfl ?_ | refine wp_goto hk rfl ?_ | refine wp_geti hk rfl rfl rfl rfl ?_ | refine wp_getr hk rfl rfl rfl rfl ?_)
        rw [q_nadd s 1]
        exact ih _ _) (by
        intro k hk7 ihk x7
        simp only [sumI] at ihk
        refine wp_icgeN (u := k) (v := 7) hk rfl rfl rfl (by omega) (by omega) (fun g => absurd g (by omega)) (fun _ => ?_)
        have fin : ∀ b, b = lnB V j f s k → WP 192 41 [some (.ref 83), some (.int (nI i)), some (.int (nI j)), some (.int (nI f)), some (.int (sumI (fun s => sumI (lnG V j f s) 7) s + sumI (lnG V j f s) k)), some (.int (nI s)), some (.int (nI k)), x7] [.int (nI (b2n b))] M Q := by
          intro b hb
          have ihk' := ihk (some (.int (nI (b2n b))))
          unfold lnG at ihk'
          rw [← hb] at ihk'
          repeat (first | refine wp_s hk rfl rfl ?_ | refine wp_goto hk rfl ?_ | refine wp_geti hk rfl rfl rfl rfl ?_ | refine wp_getr hk rfl rfl rfl rfl ?_)
          refine wp_ifeqB (u := b) hk rfl rfl (fun z => ?_) (fun z => ?_)
          · rw [if_neg (by rw [z]; exact Bool.false_ne_true), ← Int32.add_assoc] at ihk'
            repeat (first | refine wp_s hk rfl rfl ?_ | refine wp_goto hk rfl ?_ | refine wp_geti hk rfl rfl rfl rfl ?_ | refine wp_getr hk rfl rfl rfl rfl ?_)
            rw [q_nadd k 1]
            exact ihk'
          · rw [if_pos z, ← Int32.add_assoc] at ihk'
            repeat (first | refine wp_s hk rfl rfl ?_ | refine wp_goto hk rfl ?_ | refine wp_geti hk rfl rfl rfl rfl ?_ | refine wp_getr hk rfl rfl rfl rfl ?_)
            refine wp_ald (jx := 28 * i + 4 * j + s) hk rfl rfl (by simp only [q_nadd, q_nmul]) (by omega) ?_
            rw [P.2.2.2.2.1 j hj s (by omega)]
            repeat (first | refine wp_s hk rfl rfl ?_ | refine wp_goto hk rfl ?_ | refine wp_geti hk rfl rfl rfl rfl ?_ | refine wp_getr hk rfl rfl rfl rfl ?_)
            refine wp_ald (jx := 28 * i + 4 * k + s) hk rfl rfl (by simp only [q_nadd, q_nmul]) (by omega) ?_
            rw [P.2.2.2.2.1 k hk7 s (by omega)]
            repeat (first | refine wp_s hk rfl rfl ?_ | refine wp_goto hk rfl ?_ | refine wp_geti hk rfl rfl rfl rfl ?_ | refine wp_getr hk rfl rfl rfl rfl ?_)
            rw [q_nadd k 1]
            exact ihk'
        unfold lnB at fin
        repeat (first | refine wp_s hk rfl rfl ?_ | refine wp_goto hk rfl ?_ | refine wp_geti hk rfl rfl rfl rfl ?_ | refine wp_getr hk rfl rfl rfl rfl ?_)
        refine wp_iceqN (u := k) (v := j) hk rfl rfl rfl (by omega) (by omega) (fun g => ?_) (fun g => ?_)
        · refine wp_s hk rfl rfl ?_
          exact fin false (by rw [decide_eq_true g]; rfl)
        · rw [decide_eq_false g] at fin
          simp only [Bool.not_false, Bool.true_and] at fin
          repeat (first | refine wp_s hk rfl rfl ?_ | refine wp_goto hk rfl ?_ | refine wp_geti hk rfl rfl rfl rfl ?_ | refine wp_getr hk rfl rfl rfl rfl ?_)
          refine wp_callV hk rfl rfl rfl rfl rfl rfl ?_
          refine m_stood P O hi hk7 ?_
          refine wp_ifeqB hk rfl rfl (fun z => ?_) (fun z => ?_)
          · refine wp_s hk rfl rfl ?_
            exact fin false (by rw [z]; rfl)
          · rw [z] at fin
            simp only [Bool.true_and] at fin
            have l3 := hl2 s (by omega)
            repeat (first | refine wp_s hk rfl rfl ?_ | refine wp_goto hk rfl ?_ | refine wp_geti hk rfl rfl rfl rfl ?_ | refine wp_getr hk rfl rfl rfl rfl ?_)
            refine wp_ald (jx := 4 * i + s) hk rfl rfl (by simp only [q_nadd, q_nmul]) (by omega) ?_
            rw [P.2.2.2.1 s (by omega)]
            repeat (first | refine wp_s hk rfl rfl ?_ | refine wp_goto hk rfl ?_ | refine wp_geti hk rfl rfl rfl rfl ?_ | refine wp_getr hk rfl rfl rfl rfl ?_)
            refine wp_icneN (u := vs V s) (v := f) hk rfl rfl rfl (by omega) (by omega) (fun y => ?_) (fun y => ?_)
            · refine wp_s hk rfl rfl ?_
              exact fin false (decide_eq_false y).symm
            · refine wp_s hk rfl rfl ?_
              refine wp_goto hk rfl ?_
              exact fin true (decide_eq_true (Classical.not_not.mp y)).symm)
      have := inner 0 (Nat.zero_le _)
      change ∀ x7, WP 192 19 [some (.ref 83), some (.int (nI i)), some (.int (nI j)), some (.int (nI f)), some (.int (sumI (fun s => sumI (lnG V j f s) 7) s + nI 0)), some (.int (nI s)), some (.int (nI 0)), x7] [.int (nI 7), .int (nI 0)] M Q at this
      rw [show sumI (fun s => sumI (lnG V j f s) 7) s + nI 0 = sumI (fun s => sumI (lnG V j f s) 7) s from Int32.add_zero _] at this
      repeat (first | refine wp_s hk rfl rfl ?_ | refine wp_goto hk rfl ?_ | refine wp_geti hk rfl rfl rfl rfl ?_ | refine wp_getr hk rfl rfl rfl rfl ?_)
      exact this _)
    repeat (first | refine wp_s hk rfl rfl ?_ | refine wp_goto hk rfl ?_ | refine wp_geti hk rfl rfl rfl rfl ?_ | refine wp_getr hk rfl rfl rfl rfl ?_)
    exact loop 0 (Nat.zero_le _) _ _
def leanA (S : St) (j : Nat) : Int32 := sumI (fun i => leanV (sP S i) j (vj (sP S i) j)) (sN S)
theorem m_leanOf {M : MM} {S : St} {j : Nat} {Q : Option Value → MM → Prop} (I : RefInv M S) (O : StOK S) (hj : j < 7) (kk : Q (some (.int (leanA S j))) M) : Ca 193 [.ref 83, .int (nI j)] M Q := by
  have ho8 := O.2.2.2.1
  have hk : q_cd 193 = kd_X9_leanOf := rfl
  show WP 193 0 [some (.ref 83), some (.int (nI j)), none, none] [] M Q
  unfold leanA at kk
  have loop := q_dn (n := sN S) (P := fun i => WP 193 7 [some (.ref 83), some (.int (nI j)), some (.int (sumI (fun i => leanV (sP S i) j (vj (sP S i) j)) i)), some (.int (nI i))] [.int (M 83 22), .int (nI i)] M Q) (by
    refine wp_icgeN (u := sN S) (v := sN S) hk rfl rfl I.2.2.2.1 (by omega) (by omega) (fun _ => ?_) (fun g => absurd g (by omega))
    repeat (first | refine wp_s hk rfl rfl ?_ | refine wp_goto hk rfl ?_ | refine wp_geti hk rfl rfl rfl rfl ?_ | refine wp_getr hk rfl rfl rfl rfl ?_)
    exact wp_ir hk rfl rfl kk) (by
    intro i hi ih
    simp only [sumI] at ih
    have P := I.2.2.2.2 i hi
    have OP := O.2.2.2.2 i hi
    refine wp_icgeN (u := i) (v := sN S) hk rfl rfl I.2.2.2.1 (by omega) (by omega) (fun g => absurd g (by omega)) (fun _ => ?_)
    repeat (first | refine wp_s hk rfl rfl ?_ | refine wp_goto hk rfl ?_ | refine wp_geti hk rfl rfl rfl rfl ?_ | refine wp_getr hk rfl rfl rfl rfl ?_)
    refine wp_ald (jx := 7 * i + j) hk rfl rfl (by simp only [q_nadd, q_nmul]) (by omega) ?_
    rw [P.2.2.1 j hj]
    refine wp_callV hk rfl rfl rfl rfl rfl rfl ?_
    refine m_leanIn P OP (by omega) hj (OP.2.2.2.2.2.2.1 j hj) ?_
    repeat (first | refine wp_s hk rfl rfl ?_ | refine wp_goto hk rfl ?_ | refine wp_geti hk rfl rfl rfl rfl ?_ | refine wp_getr hk rfl rfl rfl rfl ?_)
    rw [q_nadd i 1]
    exact ih)
  repeat (first | refine wp_s hk rfl rfl ?_ | refine wp_goto hk rfl ?_ | refine wp_geti hk rfl rfl rfl rfl ?_ | refine wp_getr hk rfl rfl rfl rfl ?_)
  exact loop 0 (Nat.zero_le _)
def spLean (S : St) (a : Int32) : Int32 := if isN a 7 then leanA S (i2n a) else UNK
theorem m_lean {M : MM} {S : St} {a : Int32} {Q : Option Value → MM → Prop} (I : RefInv M S) (O : StOK S) (kk : ∀ M', RFr M M' → Q (some (.int (spLean S a))) M') : Ca 194 [.ref 83, .int a] M Q := by
  have hk : q_cd 194 = kd_X9_lean := rfl
  show WP 194 0 [some (.ref 83), some (.int a)] [] M Q
  repeat (first | refine wp_s hk rfl rfl ?_ | refine wp_goto hk rfl ?_ | refine wp_geti hk rfl rfl rfl rfl ?_ | refine wp_getr hk rfl rfl rfl rfl ?_)
  refine wp_th hk rfl (fun M0 F0 => ?_)
  have I0 := I.fr O F0
  repeat (first | refine wp_s hk rfl rfl ?_ | refine wp_goto hk rfl ?_ | refine wp_geti hk rfl rfl rfl rfl ?_ | refine wp_getr hk rfl rfl rfl rfl ?_)
  refine wp_callS hk rfl rfl rfl rfl ?_
  refine m_in ?_
  refine wp_ifeqB (u := isN a 7) hk rfl (congrArg (fun z => nI (b2n z)) ((q_in64 (by omega) (by omega)).trans (q_isN_le (n := 6) (by omega)))) (fun h' => ?_) (fun h' => ?_)
  · repeat (first | refine wp_s hk rfl rfl ?_ | refine wp_goto hk rfl ?_ | refine wp_geti hk rfl rfl rfl rfl ?_ | refine wp_getr hk rfl rfl rfl rfl ?_)
    refine wp_ir hk rfl rfl ?_
    have hkk := kk M0 F0
    simp only [spLean, h', Bool.and_self, Bool.true_and, Bool.and_true, Bool.false_and, Bool.and_false, if_true, Bool.false_eq_true, if_false, Bool.not_true, Bool.not_false] at hkk
    exact hkk
  · obtain ⟨hr, ea⟩ := i2n_of (by omega) h'
    rw [ea]
    repeat (first | refine wp_s hk rfl rfl ?_ | refine wp_goto hk rfl ?_ | refine wp_geti hk rfl rfl rfl rfl ?_ | refine wp_getr hk rfl rfl rfl rfl ?_)
    refine wp_callV hk rfl rfl rfl rfl rfl rfl ?_
    refine m_leanOf I0 O hr ?_
    repeat (first | refine wp_s hk rfl rfl ?_ | refine wp_goto hk rfl ?_ | refine wp_geti hk rfl rfl rfl rfl ?_ | refine wp_getr hk rfl rfl rfl rfl ?_)
    refine wp_ir hk rfl rfl ?_
    have hkk := kk M0 F0
    simp only [spLean, h', Bool.and_self, Bool.true_and, Bool.and_true, Bool.false_and, Bool.and_false, if_true, Bool.false_eq_true, if_false, Bool.not_true, Bool.not_false] at hkk
    exact hkk
def asG (S : St) (j k i : Nat) : Int32 := if vc (sP S i) j = true then leanV (sP S i) k (vj (sP S i) j) else nI 0
def bsG (S : St) (j k i : Nat) : Bool := vc (sP S i) j && vc (sP S i) k
def sdG (S : St) (j k : Nat) : Bool := anyN (bsG S j k) (sN S) && decide (leanA S j ≤ sumI (asG S j k) (sN S))
def sdW (S : St) (j : Nat) : Nat := sumN (fun k => if sdG S j k = true then 1 else 0) 7
def spSeldom (S : St) (a : Int32) : Int32 := if isN a 7 then nI (sdW S (i2n a)) else UNK
theorem m_seldom {M : MM} {S : St} {a : Int32} {Q : Option Value → MM → Prop} (I : RefInv M S) (O : StOK S) (kk : ∀ M', RFr M M' → Q (some (.int (spSeldom S a))) M') : Ca 195 [.ref 83, .int a] M Q := by
  have ho8 := O.2.2.2.1
  have hk : q_cd 195 = kd_X9_seldom := rfl
  show WP 195 0 [some (.ref 83), some (.int a), none, none, none, none, none, none] [] M Q
  repeat (first | refine wp_s hk rfl rfl ?_ | refine wp_goto hk rfl ?_ | refine wp_geti hk rfl rfl rfl rfl ?_ | refine wp_getr hk rfl rfl rfl rfl ?_)
  refine wp_th hk rfl (fun M0 F0 => ?_)
  have I0 := I.fr O F0
  repeat (first | refine wp_s hk rfl rfl ?_ | refine wp_goto hk rfl ?_ | refine wp_geti hk rfl rfl rfl rfl ?_ | refine wp_getr hk rfl rfl rfl rfl ?_)
  refine wp_callS hk rfl rfl rfl rfl ?_
  refine m_in ?_
  refine wp_ifneB (u := isN a 7) hk rfl (congrArg (fun z => nI (b2n z)) ((q_in64 (by omega) (by omega)).trans (q_isN_le (n := 6) (by omega)))) (fun h' => ?_) (fun h' => ?_)
  · obtain ⟨hj, ea⟩ := i2n_of (by omega) h'
    rw [ea]
    have hkk := kk M0 F0
    simp only [spSeldom, h', if_true] at hkk
    unfold sdW at hkk
    repeat (first | refine wp_s hk rfl rfl ?_ | refine wp_goto hk rfl ?_ | refine wp_geti hk rfl rfl rfl rfl ?_ | refine wp_getr hk rfl rfl rfl rfl ?_)
    refine wp_callV hk rfl rfl rfl rfl rfl rfl ?_
    refine m_leanOf I0 O hj ?_
    generalize i2n a = j at hj hkk ⊢
    have loop := q_dn (n := 7) (P := fun k => ∀ x5 x6 x7, WP 195 21 [some (.ref 83), some (.int (nI j)), some (.int (leanA S j)), some (.int (nI (sumN (fun k => if sdG S j k = true then 1 else 0) k))), some (.int (nI k)), x5, x6, x7] [.int (nI 7), .int (nI k)] M0 Q) (by
      intro x5 x6 x7
      refine wp_icgeN (u := 7) (v := 7) hk rfl rfl rfl (by omega) (by omega) (fun _ => ?_) (fun g => absurd g (by omega))
      repeat (first | refine wp_s hk rfl rfl ?_ | refine wp_goto hk rfl ?_ | refine wp_geti hk rfl rfl rfl rfl ?_ | refine wp_getr hk rfl rfl rfl rfl ?_)
      exact wp_ir hk rfl rfl hkk) (by
      intro k hk7 ih x5 x6 x7
      simp only [sumN] at ih
      refine wp_icgeN (u := k) (v := 7) hk rfl rfl rfl (by omega) (by omega) (fun g => absurd g (by omega)) (fun _ => ?_)
      have inner := q_dn (n := sN S) (P := fun i => WP 195 31 [some (.ref 83), some (.int (nI j)), some (.int (leanA S j)), some (.int (nI (sumN (fun k => if sdG S j k = true then 1 else 0) k))), some (.int (nI k)), some (.int (sumI (asG S j k) i)), some (.int (nI (b2n (anyN (bsG S j k) i)))), some (.int (nI i))] [.int (M0 83 22), .int (nI i)] M0 Q) (by
        refine wp_icgeN (u := sN S) (v := sN S) hk rfl rfl I0.2.2.2.1 (by omega) (by omega) (fun _ => ?_) (fun g => absurd g (by omega))
        have fin : ∀ b, b = sdG S j k → WP 195 81 [some (.ref 83), some (.int (nI j)), some (.int (leanA S j)), some (.int (nI (sumN (fun k => if sdG S j k = true then 1 else 0) k))), some (.int (nI k)), some (.int (sumI (asG S j k) (sN S))), some (.int (nI (b2n (anyN (bsG S j k) (sN S))))), some (.int (nI (sN S)))] [.int (nI (b2n b)), .int (nI (sumN (fun k => if sdG S j k = true then 1 else 0) k))] M0 Q := by
          intro b hb
          repeat (first | refine wp_s hk rfl rfl ?_ | refine wp_goto hk rfl ?_ | refine wp_geti hk rfl rfl rfl rfl ?_ | refine wp_getr hk rfl rfl rfl rfl ?_)
          rw [q_nadd k 1, q_nadd]
          have e : b2n b = if sdG S j k = true then 1 else 0 := by rw [← hb]; rfl
          rw [e]
          exact ih _ _ _
        unfold sdG at fin
        repeat (first | refine wp_s hk rfl rfl ?_ | refine wp_goto hk rfl ?_ | refine wp_geti hk rfl rfl rfl rfl ?_ | refine wp_getr hk rfl rfl rfl rfl ?_)
        refine wp_ifeqB hk rfl rfl (fun z => ?_) (fun z => ?_)
        · refine wp_s hk rfl rfl ?_
          exact fin false (by rw [z]; rfl)
        · rw [z] at fin ⊢
          simp only [Bool.true_and] at fin
          repeat (first | refine wp_s hk rfl rfl ?_ | refine wp_goto hk rfl ?_ | refine wp_geti hk rfl rfl rfl rfl ?_ | refine wp_getr hk rfl rfl rfl rfl ?_)
          refine wp_iclt hk rfl (fun y => ?_) (fun y => ?_)
          · refine wp_s hk rfl rfl ?_
            exact fin false (decide_eq_false (Int32.not_le.mpr y)).symm
          · refine wp_s hk rfl rfl ?_
            refine wp_goto hk rfl ?_
            exact fin true (decide_eq_true (Int32.not_lt.mp y)).symm) (by
        intro i hi ihi
        have P := I0.2.2.2.2 i hi
        have OP := O.2.2.2.2 i hi
        simp only [sumI, anyN] at ihi
        refine wp_icgeN (u := i) (v := sN S) hk rfl rfl I0.2.2.2.1 (by omega) (by omega) (fun g => absurd g (by omega)) (fun _ => ?_)
        have mid : ∀ T, T = asG S j k i → WP 195 52 [some (.ref 83), some (.int (nI j)), some (.int (leanA S j)), some (.int (nI (sumN (fun k => if sdG S j k = true then 1 else 0) k))), some (.int (nI k)), some (.int (sumI (asG S j k) i)), some (.int (nI (b2n (anyN (bsG S j k) i)))), some (.int (nI i))] [.int T, .int (sumI (asG S j k) i)] M0 Q := by
          intro T hT
          rw [← hT] at ihi
          have fin : ∀ b, b = (anyN (bsG S j k) i || bsG S j k i) → WP 195 69 [some (.ref 83), some (.int (nI j)), some (.int (leanA S j)), some (.int (nI (sumN (fun k => if sdG S j k = true then 1 else 0) k))), some (.int (nI k)), some (.int (sumI (asG S j k) i + T)), some (.int (nI (b2n (anyN (bsG S j k) i)))), some (.int (nI i))] [.int (nI (b2n b))] M0 Q := by
            intro b hb
            repeat (first | refine wp_s hk rfl rfl ?_ | refine wp_goto hk rfl ?_ | refine wp_geti hk rfl rfl rfl rfl ?_ | refine wp_getr hk rfl rfl rfl rfl ?_)
            rw [q_nadd i 1, hb]
            exact ihi
          unfold bsG at fin
          repeat (first | refine wp_s hk rfl rfl ?_ | refine wp_goto hk rfl ?_ | refine wp_geti hk rfl rfl rfl rfl ?_ | refine wp_getr hk rfl rfl rfl rfl ?_)
          refine wp_ifneB hk rfl rfl (fun z => ?_) (fun z => ?_)
          · refine wp_s hk rfl rfl ?_
            refine wp_goto hk rfl ?_
            exact fin true (by unfold bsG at z; rw [z]; rfl)
          · have z' := z
            unfold bsG at z'
            rw [z'] at fin
            simp only [Bool.false_or] at fin
            rw [z]
            repeat (first | refine wp_s hk rfl rfl ?_ | refine wp_goto hk rfl ?_ | refine wp_geti hk rfl rfl rfl rfl ?_ | refine wp_getr hk rfl rfl rfl rfl ?_)
            refine wp_callV hk rfl rfl rfl rfl rfl rfl ?_
            refine m_stood P OP (by omega) hj ?_
            refine wp_ifeqB hk rfl rfl (fun y => ?_) (fun y => ?_)
            · refine wp_s hk rfl rfl ?_
              exact fin false (by rw [y]; rfl)
            · rw [y] at fin
              simp only [Bool.true_and] at fin
              repeat (first | refine wp_s hk rfl rfl ?_ | refine wp_goto hk rfl ?_ | refine wp_geti hk rfl rfl rfl rfl ?_ | refine wp_getr hk rfl rfl rfl rfl ?_)
              refine wp_callV hk rfl rfl rfl rfl rfl rfl ?_
              refine m_stood P OP (by omega) hk7 ?_
              refine wp_ifeqB hk rfl rfl (fun w => ?_) (fun w => ?_)
              · refine wp_s hk rfl rfl ?_
                exact fin false w.symm
              · refine wp_s hk rfl rfl ?_
                refine wp_goto hk rfl ?_
                exact fin true w.symm
        unfold asG at mid
        repeat (first | refine wp_s hk rfl rfl ?_ | refine wp_goto hk rfl ?_ | refine wp_geti hk rfl rfl rfl rfl ?_ | refine wp_getr hk rfl rfl rfl rfl ?_)
        refine wp_callV hk rfl rfl rfl rfl rfl rfl ?_
        refine m_stood P OP (by omega) hj ?_
        refine wp_ifeqB hk rfl rfl (fun z => ?_) (fun z => ?_)
        · refine wp_s hk rfl rfl ?_
          exact mid (nI 0) (by rw [if_neg (by rw [z]; exact Bool.false_ne_true)])
        · repeat (first | refine wp_s hk rfl rfl ?_ | refine wp_goto hk rfl ?_ | refine wp_geti hk rfl rfl rfl rfl ?_ | refine wp_getr hk rfl rfl rfl rfl ?_)
          refine wp_ald (jx := 7 * i + j) hk rfl rfl (by simp only [q_nadd, q_nmul]) (by omega) ?_
          rw [P.2.2.1 j hj]
          refine wp_callV hk rfl rfl rfl rfl rfl rfl ?_
          refine m_leanIn P OP (by omega) hk7 (OP.2.2.2.2.2.2.1 j hj) ?_
          refine wp_goto hk rfl ?_
          exact mid _ (by rw [if_pos z]))
      repeat (first | refine wp_s hk rfl rfl ?_ | refine wp_goto hk rfl ?_ | refine wp_geti hk rfl rfl rfl rfl ?_ | refine wp_getr hk rfl rfl rfl rfl ?_)
      exact inner 0 (Nat.zero_le _))
    repeat (first | refine wp_s hk rfl rfl ?_ | refine wp_goto hk rfl ?_ | refine wp_geti hk rfl rfl rfl rfl ?_ | refine wp_getr hk rfl rfl rfl rfl ?_)
    exact loop 0 (Nat.zero_le _) _ _ _
  · repeat (first | refine wp_s hk rfl rfl ?_ | refine wp_goto hk rfl ?_ | refine wp_geti hk rfl rfl rfl rfl ?_ | refine wp_getr hk rfl rfl rfl rfl ?_)
    refine wp_ir hk rfl rfl ?_
    have hkk := kk M0 F0
    simp only [spSeldom, h', Bool.and_self, Bool.true_and, Bool.and_true, Bool.false_and, Bool.and_false, if_true, Bool.false_eq_true, if_false, Bool.not_true, Bool.not_false] at hkk
    exact hkk
def lnW (g : Nat → Int32) : Nat → Option Nat
  | 0 => none
  | k + 1 => match lnW g k with
    | none => some k
    | some b => if g b < g k then some k else some b
theorem lnW_lt {g : Nat → Int32} : ∀ {k b : Nat}, lnW g k = some b → b < k
  | 0, b, h => by cases h
  | k + 1, b, h => by
    simp only [lnW] at h
    cases hl : lnW g k with
    | none => rw [hl] at h; cases h; omega
    | some c =>
      have := lnW_lt hl
      rw [hl] at h
      change (if g c < g k then some k else some c) = some b at h
      by_cases hc : g c < g k
      · rw [if_pos hc] at h; cases h; omega
      · rw [if_neg hc] at h; cases h; omega
def spLeaner (S : St) : Int32 := if sN S = 0 then NON else fwV (lnW (leanA S) 7)
theorem m_leaner {M : MM} {S : St} {Q : Option Value → MM → Prop} (I : RefInv M S) (O : StOK S) (kk : ∀ M', RFr M M' → Q (some (.int (spLeaner S))) M') : Ca 196 [.ref 83] M Q := by
  have ho8 := O.2.2.2.1
  have hk : q_cd 196 = kd_X9_leaner := rfl
  show WP 196 0 [some (.ref 83), none, none] [] M Q
  repeat (first | refine wp_s hk rfl rfl ?_ | refine wp_goto hk rfl ?_ | refine wp_geti hk rfl rfl rfl rfl ?_ | refine wp_getr hk rfl rfl rfl rfl ?_)
  refine wp_th hk rfl (fun M0 F0 => ?_)
  have I0 := I.fr O F0
  have hkk := kk M0 F0
  unfold spLeaner at hkk
  by_cases h0 : sN S = 0
  · rw [if_pos h0] at hkk
    repeat (first | refine wp_s hk rfl rfl ?_ | refine wp_goto hk rfl ?_ | refine wp_geti hk rfl rfl rfl rfl ?_ | refine wp_getr hk rfl rfl rfl rfl ?_)
    refine wp_icgeN (u := 0) (v := 7) hk rfl rfl rfl (by first | omega | decide) (by first | omega | decide) (fun g => absurd g (by omega)) (fun _ => ?_)
    repeat (first | refine wp_s hk rfl rfl ?_ | refine wp_goto hk rfl ?_ | refine wp_geti hk rfl rfl rfl rfl ?_ | refine wp_getr hk rfl rfl rfl rfl ?_)
    refine wp_ifleN (u := sN S) hk rfl I0.2.2.2.1 (by omega) (fun _ => ?_) (fun g => absurd h0 g)
    repeat (first | refine wp_s hk rfl rfl ?_ | refine wp_goto hk rfl ?_ | refine wp_geti hk rfl rfl rfl rfl ?_ | refine wp_getr hk rfl rfl rfl rfl ?_)
    exact wp_ir hk rfl rfl hkk
  · rw [if_neg h0] at hkk
    have loop := q_dn (n := 7) (P := fun k => WP 196 9 [some (.ref 83), some (.int (fwV (lnW (leanA S) k))), some (.int (nI k))] [.int (nI 7), .int (nI k)] M0 Q) (by
      refine wp_icgeN (u := 7) (v := 7) hk rfl rfl rfl (by omega) (by omega) (fun _ => ?_) (fun g => absurd g (by omega))
      repeat (first | refine wp_s hk rfl rfl ?_ | refine wp_goto hk rfl ?_ | refine wp_geti hk rfl rfl rfl rfl ?_ | refine wp_getr hk rfl rfl rfl rfl ?_)
      exact wp_ir hk rfl rfl hkk) (by
      intro k hk7 ih
      simp only [lnW] at ih
      refine wp_icgeN (u := k) (v := 7) hk rfl rfl rfl (by omega) (by omega) (fun g => absurd g (by omega)) (fun _ => ?_)
      repeat (first | refine wp_s hk rfl rfl ?_ | refine wp_goto hk rfl ?_ | refine wp_geti hk rfl rfl rfl rfl ?_ | refine wp_getr hk rfl rfl rfl rfl ?_)
      refine wp_ifleN (u := sN S) hk rfl I0.2.2.2.1 (by omega) (fun g => absurd g h0) (fun _ => ?_)
      repeat (first | refine wp_s hk rfl rfl ?_ | refine wp_goto hk rfl ?_ | refine wp_geti hk rfl rfl rfl rfl ?_ | refine wp_getr hk rfl rfl rfl rfl ?_)
      cases hl : lnW (leanA S) k with
      | none =>
        rw [hl] at ih
        refine wp_iceq hk rfl (fun _ => ?_) (fun z => absurd rfl z)
        repeat (first | refine wp_s hk rfl rfl ?_ | refine wp_goto hk rfl ?_ | refine wp_geti hk rfl rfl rfl rfl ?_ | refine wp_getr hk rfl rfl rfl rfl ?_)
        rw [q_nadd k 1]
        exact ih
      | some b =>
        rw [hl] at ih
        have hb := lnW_lt hl
        refine wp_iceq hk rfl (fun z => absurd z (q_non b (by omega))) (fun _ => ?_)
        repeat (first | refine wp_s hk rfl rfl ?_ | refine wp_goto hk rfl ?_ | refine wp_geti hk rfl rfl rfl rfl ?_ | refine wp_getr hk rfl rfl rfl rfl ?_)
        refine wp_callV hk rfl rfl rfl rfl rfl rfl ?_
        refine m_leanOf I0 O hk7 ?_
        repeat (first | refine wp_s hk rfl rfl ?_ | refine wp_goto hk rfl ?_ | refine wp_geti hk rfl rfl rfl rfl ?_ | refine wp_getr hk rfl rfl rfl rfl ?_)
        change WP 196 _ _ [.int (nI b), _, _] _ _
        refine wp_callV hk rfl rfl rfl rfl rfl rfl ?_
        refine m_leanOf (j := b) I0 O (by omega) ?_
        change WP 196 9 [_, some (.int (fwV (if leanA S b < leanA S k then some k else some b))), _] _ _ _ at ih
        refine wp_icle hk rfl (fun z => ?_) (fun z => ?_)
        · rw [if_neg (Int32.not_lt.mpr z)] at ih
          repeat (first | refine wp_s hk rfl rfl ?_ | refine wp_goto hk rfl ?_ | refine wp_geti hk rfl rfl rfl rfl ?_ | refine wp_getr hk rfl rfl rfl rfl ?_)
          rw [q_nadd k 1]
          exact ih
        · rw [if_pos (Int32.not_le.mp z)] at ih
          repeat (first | refine wp_s hk rfl rfl ?_ | refine wp_goto hk rfl ?_ | refine wp_geti hk rfl rfl rfl rfl ?_ | refine wp_getr hk rfl rfl rfl rfl ?_)
          rw [q_nadd k 1]
          exact ih)
    repeat (first | refine wp_s hk rfl rfl ?_ | refine wp_goto hk rfl ?_ | refine wp_geti hk rfl rfl rfl rfl ?_ | refine wp_getr hk rfl rfl rfl rfl ?_)
    exact loop 0 (Nat.zero_le _)
