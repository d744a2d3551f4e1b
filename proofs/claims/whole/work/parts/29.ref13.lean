/-! the reference's operations that change its state -/
def Hi (M M' : MM) : Prop := ∀ i, i < 83 → M' i = M i
theorem Hi.rf (M : MM) : Hi M M := fun _ _ => rfl
theorem Hi.tr {M M1 M2 : MM} (h1 : Hi M M1) (h2 : Hi M1 M2) : Hi M M2 := fun i hi => (h2 i hi).trans (h1 i hi)
theorem Hi.fr {M M' : MM} (F : RFr M M') : Hi M M' := fun i hi => F.1 i (fun z => by
  simp only [List.mem_cons, List.not_mem_nil, or_false] at z
  omega)
theorem Hi.kp {M M' : MM} {ids : List Nat} (h : Kp M M' ids) (hs : ∀ i ∈ ids, 83 ≤ i := by decide) : Hi M M' := fun i hi => h i (fun z => by have := hs i z; omega)
theorem Hi.up {M M1 : MM} {i : Nat} {f : Nat → Int32} (h : Hi M M1) (hi : 83 ≤ i) : Hi M (q_up M1 i f) := fun j hj => by rw [q_up_ne _ _ (by omega)]; exact h j hj
theorem q83 (M : MM) (j : Nat) (x : Int32) (k : Nat) : (q_up M 83 (upd (M 83) j x)) 83 k = if k = j then x else M 83 k := by
  rw [q_up_at]
  by_cases e : k = j
  · subst e; rw [upd_at, if_pos rfl]
  · rw [upd_ne _ _ e, if_neg e]
def stV (S : St) (V : Vw) : St := (V, S.2)
theorem RefInv.card {M M' : MM} {S : St} {V : Vw} (I : RefInv M S) (h : ∀ i ∈ [90, 94, 95, 96, 97, 101, 102, 103, 104, 105, 106], M' i = M i) (h1 : M' 83 10 = M 83 10) (h2 : M' 83 22 = M 83 22) (hc : RefCard M' V) : RefInv M' (stV S V) := by
  obtain ⟨-, ⟨b1, b2⟩, ⟨c1, c2, c3⟩, d1, e1⟩ := I
  have g90 := h 90 (by decide); have g94 := h 94 (by decide); have g95 := h 95 (by decide); have g96 := h 96 (by decide); have g97 := h 97 (by decide)
  have g101 := h 101 (by decide); have g102 := h 102 (by decide); have g103 := h 103 (by decide); have g104 := h 104 (by decide); have g105 := h 105 (by decide); have g106 := h 106 (by decide)
  refine ⟨hc, ⟨by rw [h1]; exact b1, by rw [g90]; exact b2⟩, ⟨fun r hr => ?_, by rw [g94]; exact c2, by rw [g95]; exact c3⟩, by rw [h2]; exact d1, fun i hi => ?_⟩
  · have := c1 r hr
    unfold RefRu at this ⊢
    rw [g94, g95, g96, g97]
    exact this
  · have := e1 i hi
    unfold RefPast at this ⊢
    rw [g101, g102, g103, g104, g105, g106]
    exact this
def vwP (n m : Nat) : Vw := (n, m, 0, fun _ _ => 0, fun _ => 0, fun _ => 0)
def opPanel (S : St) (a b : Int32) : Int32 × St := if isR a 1 7 && isR b 1 4 then (nI (i2n a * i2n b), stV S (vwP (i2n a) (i2n b))) else (BAD, S)
/-- zeros from the start on -/
def zr (M : MM) (id j : Nat) : Prop := ∀ i, i < j → M id i = nI 0
theorem zr.up {M : MM} {id j : Nat} (h : zr M id j) : zr (q_up M id (upd (M id) j (nI 0))) id (j + 1) := fun i hi => by
  rw [q_up_at]
  by_cases e : i = j
  · subst e; rw [upd_at]
  · rw [upd_ne _ _ e]; exact h i (by omega)
theorem zr.ne {M : MM} {id j i : Nat} {f : Nat → Int32} (h : zr M id j) (hi : id ≠ i) : zr (q_up M i f) id j := fun k hk => by rw [q_up_ne _ _ hi]; exact h k hk
theorem m_panel {M : MM} {S : St} {a b : Int32} {Q : Option Value → MM → Prop} (I : RefInv M S) (O : StOK S) (kk : ∀ M', RefInv M' (opPanel S a b).2 → Hi M M' → Q (some (.int (opPanel S a b).1)) M') : Ca 140 [.ref 83, .int a, .int b] M Q := by
  have hk : q_cd 140 = kd_X9_panel := rfl
  show WP 140 0 [some (.ref 83), some (.int a), some (.int b), none] [] M Q
  repeat (first | refine wp_s hk rfl rfl ?_ | refine wp_goto hk rfl ?_ | refine wp_geti hk rfl rfl rfl rfl ?_ | refine wp_getr hk rfl rfl rfl rfl ?_)
  refine wp_th hk rfl (fun M0 F0 => ?_)
  have I0 := I.fr O F0
  have H0 := Hi.fr F0
  have bad : (isR a 1 7 && isR b 1 4) = false → ∀ x3, WP 140 15 [some (.ref 83), some (.int a), some (.int b), x3] [] M0 Q := by
    intro h x3
    repeat (first | refine wp_s hk rfl rfl ?_ | refine wp_goto hk rfl ?_ | refine wp_geti hk rfl rfl rfl rfl ?_ | refine wp_getr hk rfl rfl rfl rfl ?_)
    refine wp_ir hk rfl rfl ?_
    have hkk := kk M0
    simp only [opPanel, h, Bool.false_eq_true, if_false] at hkk
    exact hkk I0 H0
  repeat (first | refine wp_s hk rfl rfl ?_ | refine wp_goto hk rfl ?_ | refine wp_geti hk rfl rfl rfl rfl ?_ | refine wp_getr hk rfl rfl rfl rfl ?_)
  refine wp_callS hk rfl rfl rfl rfl ?_
  refine m_in ?_
  refine wp_ifeqB (u := isR a 1 7) hk rfl (congrArg (fun z => nI (b2n z)) (q_in64 (by omega) (by omega))) (fun h => bad (by rw [h]; rfl) _) (fun h => ?_)
  repeat (first | refine wp_s hk rfl rfl ?_ | refine wp_goto hk rfl ?_ | refine wp_geti hk rfl rfl rfl rfl ?_ | refine wp_getr hk rfl rfl rfl rfl ?_)
  refine wp_callS hk rfl rfl rfl rfl ?_
  refine m_in ?_
  refine wp_ifneB (u := isR b 1 4) hk rfl (congrArg (fun z => nI (b2n z)) (q_in64 (by omega) (by omega))) (fun g => ?_) (fun g => bad (by rw [g, Bool.and_false]) _)
  obtain ⟨a1, a2, a3⟩ := isR_of (by omega) (by omega) h
  obtain ⟨b1, b2, b3⟩ := isR_of (by omega) (by omega) g
  have hkk := fun M' => kk M'
  simp only [opPanel, h, g, Bool.and_self, if_true] at hkk
  rw [a3, b3]
  generalize i2n a = n at a1 a2 hkk ⊢
  generalize i2n b = m at b1 b2 hkk ⊢
  repeat (first | refine wp_s hk rfl rfl ?_ | refine wp_goto hk rfl ?_ | refine wp_geti hk rfl rfl rfl rfl ?_ | refine wp_getr hk rfl rfl rfl rfl ?_)
  refine wp_put hk rfl rfl rfl rfl rfl ?_
  repeat (first | refine wp_s hk rfl rfl ?_ | refine wp_goto hk rfl ?_ | refine wp_geti hk rfl rfl rfl rfl ?_ | refine wp_getr hk rfl rfl rfl rfl ?_)
  refine wp_put hk rfl rfl rfl rfl rfl ?_
  have e1 : ∀ j, (q_up (q_up M0 83 (upd (M0 83) 1 (nI n))) 83 (upd ((q_up M0 83 (upd (M0 83) 1 (nI n))) 83) 2 (nI m))) 83 j = if j = 2 then nI m else if j = 1 then nI n else M0 83 j := fun j => by rw [q83, q83]
  have K2 : Kp M0 (q_up (q_up M0 83 (upd (M0 83) 1 (nI n))) 83 (upd ((q_up M0 83 (upd (M0 83) 1 (nI n))) 83) 2 (nI m))) [83] := ((Kp.rf _ _).up (by decide)).up (by decide)
  generalize q_up (q_up M0 83 (upd (M0 83) 1 (nI n))) 83 (upd ((q_up M0 83 (upd (M0 83) 1 (nI n))) 83) 2 (nI m)) = M2 at e1 K2 ⊢
  have l3 : ∀ M1, Kp M2 M1 [84, 85, 86, 87] → zr M1 84 7 → zr M1 87 7 → zr M1 85 4 → zr M1 86 0 → WP 140 56 [some (.ref 83), some (.int (nI n)), some (.int (nI m)), some (.int (nI 0))] [.int (nI 28), .int (nI 0)] M1 Q := by
    intro M1 K1 Z1 Z2 Z3 Z4
    refine q_dn (n := 28) (P := fun j => ∀ M1, Kp M2 M1 [84, 85, 86, 87] → zr M1 84 7 → zr M1 87 7 → zr M1 85 4 → zr M1 86 j → WP 140 56 [some (.ref 83), some (.int (nI n)), some (.int (nI m)), some (.int (nI j))] [.int (nI 28), .int (nI j)] M1 Q) (fun M1 K1 Z1 Z2 Z3 Z4 => ?_) (fun j hj ih M1 K1 Z1 Z2 Z3 Z4 => ?_) 0 (Nat.zero_le _) M1 K1 Z1 Z2 Z3 Z4
    · refine wp_icgeN (u := 28) (v := 28) hk rfl rfl rfl (by omega) (by omega) (fun _ => ?_) (fun z => absurd z (by omega))
      repeat (first | refine wp_s hk rfl rfl ?_ | refine wp_goto hk rfl ?_ | refine wp_geti hk rfl rfl rfl rfl ?_ | refine wp_getr hk rfl rfl rfl rfl ?_)
      rw [q_nmul]
      refine wp_ir hk rfl rfl (hkk M1 (I0.card (V := vwP n m) (fun i hi => ?_) ?_ ?_ ⟨?_, ?_, fun j hj => ?_, fun j hj s hs => ?_, fun j hj => ?_, fun s hs => ?_⟩) (H0.tr ((Hi.kp K2).tr (Hi.kp K1))))
      · rw [K1 i (fun z => by simp only [List.mem_cons, List.not_mem_nil, or_false] at z hi; omega), K2 i (fun z => by simp only [List.mem_cons, List.not_mem_nil, or_false] at z hi; omega)]
      · rw [K1 83 (by decide), e1]; rfl
      · rw [K1 83 (by decide), e1]; rfl
      · rw [K1 83 (by decide), e1]; rfl
      · rw [K1 83 (by decide), e1]; rfl
      · rw [Z2 j hj]; show nI 0 = nI (b2n (Nat.testBit 0 j)); rw [Nat.zero_testBit]; rfl
      · exact Z4 _ (by omega)
      · exact Z1 j hj
      · exact Z3 s hs
    · refine wp_icgeN (u := j) (v := 28) hk rfl rfl rfl (by omega) (by omega) (fun z => absurd z (by omega)) (fun _ => ?_)
      repeat (first | refine wp_s hk rfl rfl ?_ | refine wp_goto hk rfl ?_ | refine wp_geti hk rfl rfl rfl rfl ?_ | refine wp_getr hk rfl rfl rfl rfl ?_)
      refine wp_ast (jx := j) hk rfl rfl rfl (by omega) ?_
      repeat (first | refine wp_s hk rfl rfl ?_ | refine wp_goto hk rfl ?_ | refine wp_geti hk rfl rfl rfl rfl ?_ | refine wp_getr hk rfl rfl rfl rfl ?_)
      rw [q_nadd j 1]
      exact ih _ (K1.up (by decide)) (Z1.ne (by decide)) (Z2.ne (by decide)) (Z3.ne (by decide)) Z4.up
  have l2 : ∀ M1, Kp M2 M1 [84, 85, 86, 87] → zr M1 84 7 → zr M1 87 7 → zr M1 85 0 → WP 140 44 [some (.ref 83), some (.int (nI n)), some (.int (nI m)), some (.int (nI 0))] [.int (nI 4), .int (nI 0)] M1 Q := by
    intro M1 K1 Z1 Z2 Z3
    refine q_dn (n := 4) (P := fun j => ∀ M1, Kp M2 M1 [84, 85, 86, 87] → zr M1 84 7 → zr M1 87 7 → zr M1 85 j → WP 140 44 [some (.ref 83), some (.int (nI n)), some (.int (nI m)), some (.int (nI j))] [.int (nI 4), .int (nI j)] M1 Q) (fun M1 K1 Z1 Z2 Z3 => ?_) (fun j hj ih M1 K1 Z1 Z2 Z3 => ?_) 0 (Nat.zero_le _) M1 K1 Z1 Z2 Z3
    · refine wp_icgeN (u := 4) (v := 4) hk rfl rfl rfl (by omega) (by omega) (fun _ => ?_) (fun z => absurd z (by omega))
      repeat (first | refine wp_s hk rfl rfl ?_ | refine wp_goto hk rfl ?_ | refine wp_geti hk rfl rfl rfl rfl ?_ | refine wp_getr hk rfl rfl rfl rfl ?_)
      exact l3 M1 K1 Z1 Z2 Z3 (fun i hi => absurd hi (Nat.not_lt_zero _))
    · refine wp_icgeN (u := j) (v := 4) hk rfl rfl rfl (by omega) (by omega) (fun z => absurd z (by omega)) (fun _ => ?_)
      repeat (first | refine wp_s hk rfl rfl ?_ | refine wp_goto hk rfl ?_ | refine wp_geti hk rfl rfl rfl rfl ?_ | refine wp_getr hk rfl rfl rfl rfl ?_)
      refine wp_ast (jx := j) hk rfl rfl rfl (by omega) ?_
      repeat (first | refine wp_s hk rfl rfl ?_ | refine wp_goto hk rfl ?_ | refine wp_geti hk rfl rfl rfl rfl ?_ | refine wp_getr hk rfl rfl rfl rfl ?_)
      rw [q_nadd j 1]
      exact ih _ (K1.up (by decide)) (Z1.ne (by decide)) (Z2.ne (by decide)) Z3.up
  have l1 := q_dn (n := 7) (P := fun j => ∀ M1, Kp M2 M1 [84, 85, 86, 87] → zr M1 84 j → zr M1 87 j → WP 140 27 [some (.ref 83), some (.int (nI n)), some (.int (nI m)), some (.int (nI j))] [.int (nI 7), .int (nI j)] M1 Q) (fun M1 K1 Z1 Z2 => by
    refine wp_icgeN (u := 7) (v := 7) hk rfl rfl rfl (by omega) (by omega) (fun _ => ?_) (fun z => absurd z (by omega))
    repeat (first | refine wp_s hk rfl rfl ?_ | refine wp_goto hk rfl ?_ | refine wp_geti hk rfl rfl rfl rfl ?_ | refine wp_getr hk rfl rfl rfl rfl ?_)
    exact l2 M1 K1 Z1 Z2 (fun i hi => absurd hi (Nat.not_lt_zero _))) (fun j hj ih M1 K1 Z1 Z2 => by
    refine wp_icgeN (u := j) (v := 7) hk rfl rfl rfl (by omega) (by omega) (fun z => absurd z (by omega)) (fun _ => ?_)
    repeat (first | refine wp_s hk rfl rfl ?_ | refine wp_goto hk rfl ?_ | refine wp_geti hk rfl rfl rfl rfl ?_ | refine wp_getr hk rfl rfl rfl rfl ?_)
    refine wp_ast (jx := j) hk rfl rfl rfl (by omega) ?_
    repeat (first | refine wp_s hk rfl rfl ?_ | refine wp_goto hk rfl ?_ | refine wp_geti hk rfl rfl rfl rfl ?_ | refine wp_getr hk rfl rfl rfl rfl ?_)
    refine wp_bst (jx := j) hk rfl rfl rfl (by omega) (Or.inl (by decide)) ?_
    repeat (first | refine wp_s hk rfl rfl ?_ | refine wp_goto hk rfl ?_ | refine wp_geti hk rfl rfl rfl rfl ?_ | refine wp_getr hk rfl rfl rfl rfl ?_)
    rw [q_nadd j 1]
    exact ih _ ((K1.up (by decide)).up (by decide)) (Z1.up.ne (by decide)) (Z2.ne (by decide)).up)
  repeat (first | refine wp_s hk rfl rfl ?_ | refine wp_goto hk rfl ?_ | refine wp_geti hk rfl rfl rfl rfl ?_ | refine wp_getr hk rfl rfl rfl rfl ?_)
  exact l1 0 (Nat.zero_le _) M2 (Kp.rf _ _) (fun i hi => absurd hi (Nat.not_lt_zero _)) (fun i hi => absurd hi (Nat.not_lt_zero _))
def setS (V : Vw) (s x : Nat) : Vw := (vn V, vm V, vL V, vk V, vj V, updN (vs V) s x)
def setJ (V : Vw) (j x : Nat) : Vw := (vn V, vm V, vL V, vk V, updN (vj V) j x, vs V)
def setK (V : Vw) (k : Nat → Nat → Nat) : Vw := (vn V, vm V, vL V, k, vj V, vs V)
def setL (V : Vw) (L : Nat) : Vw := (vn V, vm V, L, vk V, vj V, vs V)
def opLand (S : St) (z : Bool) (a b : Int32) : Int32 × St := if isN a (if z = true then vm (sV S) else vn (sV S)) then (if isN b 4 then (nI (if z = true then vs (sV S) (i2n a) else vj (sV S) (i2n a)), stV S (if z = true then setS (sV S) (i2n a) (i2n b) else setJ (sV S) (i2n a) (i2n b))) else (BAD, S)) else (UNK, S)
theorem updN_at (f : Nat → Nat) (k x : Nat) : updN f k x k = x := by simp [updN]
theorem updN_ne (f : Nat → Nat) {k j : Nat} (x : Nat) (h : j ≠ k) : updN f k x j = f j := by simp [updN, h]
theorem m_land {M : MM} {S : St} {z : Bool} {a b : Int32} {Q : Option Value → MM → Prop} (I : RefInv M S) (O : StOK S) (kk : ∀ M', RefInv M' (opLand S z a b).2 → Hi M M' → Q (some (.int (opLand S z a b).1)) M') : Ca 141 [.ref 83, .int (nI (b2n z)), .int a, .int b] M Q := by
  have ho1 := O.1.2.2.1
  have ho4 := O.1.2.2.2.1
  have ho7 := O.1.2.1
  have hk : q_cd 141 = kd_X9_land := rfl
  show WP 141 0 [some (.ref 83), some (.int (nI (b2n z))), some (.int a), some (.int b), none] [] M Q
  repeat (first | refine wp_s hk rfl rfl ?_ | refine wp_goto hk rfl ?_ | refine wp_geti hk rfl rfl rfl rfl ?_ | refine wp_getr hk rfl rfl rfl rfl ?_)
  refine wp_th hk rfl (fun M0 F0 => ?_)
  have I0 := I.fr O F0
  have H0 := Hi.fr F0
  cases z with
  | true =>
    simp only [opLand, if_true] at kk
    repeat (first | refine wp_s hk rfl rfl ?_ | refine wp_goto hk rfl ?_ | refine wp_geti hk rfl rfl rfl rfl ?_ | refine wp_getr hk rfl rfl rfl rfl ?_)
    refine wp_ifeqB (u := true) hk rfl rfl (fun y => by cases y) (fun _ => ?_)
    repeat (first | refine wp_s hk rfl rfl ?_ | refine wp_goto hk rfl ?_ | refine wp_geti hk rfl rfl rfl rfl ?_ | refine wp_getr hk rfl rfl rfl rfl ?_)
    refine wp_callV hk rfl rfl rfl rfl rfl rfl ?_
    refine m_noSkater I0.1.2.1 ho1 (by omega) ?_
    refine wp_ifeqB (u := !isN a (vm (sV S))) hk rfl rfl (fun h => ?_) (fun h => ?_)
    · have h' : isN a (vm (sV S)) = true := by simpa using h
      repeat (first | refine wp_s hk rfl rfl ?_ | refine wp_goto hk rfl ?_ | refine wp_geti hk rfl rfl rfl rfl ?_ | refine wp_getr hk rfl rfl rfl rfl ?_)
      refine wp_callS hk rfl rfl rfl rfl ?_
      refine m_in ?_
      refine wp_ifneB (u := isN b 4) hk rfl (congrArg (fun z => nI (b2n z)) ((q_in64 (by omega) (by omega)).trans (q_isN_le (n := 3) (by omega)))) (fun g => ?_) (fun g => ?_)
      · obtain ⟨ha, ea⟩ := i2n_of (by omega) h'
        obtain ⟨hb, eb⟩ := i2n_of (by omega) g
        simp only [h', g, if_true] at kk
        rw [ea, eb]
        generalize i2n a = s at ha kk ⊢
        generalize i2n b = x at hb kk ⊢
        repeat (first | refine wp_s hk rfl rfl ?_ | refine wp_goto hk rfl ?_ | refine wp_geti hk rfl rfl rfl rfl ?_ | refine wp_getr hk rfl rfl rfl rfl ?_)
        refine wp_ifeqB (u := true) hk rfl rfl (fun y => by cases y) (fun _ => ?_)
        repeat (first | refine wp_s hk rfl rfl ?_ | refine wp_goto hk rfl ?_ | refine wp_geti hk rfl rfl rfl rfl ?_ | refine wp_getr hk rfl rfl rfl rfl ?_)
        refine wp_ald (jx := s) hk rfl rfl rfl (by omega) ?_
        rw [I0.1.2.2.2.2.2 s (by omega)]
        repeat (first | refine wp_s hk rfl rfl ?_ | refine wp_goto hk rfl ?_ | refine wp_geti hk rfl rfl rfl rfl ?_ | refine wp_getr hk rfl rfl rfl rfl ?_)
        refine wp_ifeqB (u := true) hk rfl rfl (fun y => by cases y) (fun _ => ?_)
        repeat (first | refine wp_s hk rfl rfl ?_ | refine wp_goto hk rfl ?_ | refine wp_geti hk rfl rfl rfl rfl ?_ | refine wp_getr hk rfl rfl rfl rfl ?_)
        refine wp_ast (jx := s) hk rfl rfl rfl (by omega) ?_
        repeat (first | refine wp_s hk rfl rfl ?_ | refine wp_goto hk rfl ?_ | refine wp_geti hk rfl rfl rfl rfl ?_ | refine wp_getr hk rfl rfl rfl rfl ?_)
        obtain ⟨c1, c2, c3, c4, c5, c6⟩ := I0.1
        refine wp_ir hk rfl rfl (kk _ (I0.card (V := setS (sV S) s x) (fun i hi => ?_) ?_ ?_ ⟨?_, ?_, fun j hj => ?_, fun j hj t ht => ?_, fun j hj => ?_, fun t ht => ?_⟩) (H0.up (by decide)))
        · rw [q_up_ne _ _ (fun z => by simp only [List.mem_cons, List.not_mem_nil, or_false] at hi; omega)]
        · rw [q_up_ne _ _ (by decide)]
        · rw [q_up_ne _ _ (by decide)]
        · rw [q_up_ne _ _ (by decide)]; exact c1
        · rw [q_up_ne _ _ (by decide)]; exact c2
        · rw [q_up_ne _ _ (by decide)]; exact c3 j hj
        · rw [q_up_ne _ _ (by decide)]; exact c4 j hj t ht
        · rw [q_up_ne _ _ (by decide)]; exact c5 j hj
        · rw [q_up_at]
          show _ = nI (updN (vs (sV S)) s x t)
          by_cases e : t = s
          · subst e; rw [upd_at, updN_at]
          · rw [upd_ne _ _ e, updN_ne _ _ e]; exact c6 t ht
      · simp only [h', g, if_true, Bool.false_eq_true, if_false] at kk
        repeat (first | refine wp_s hk rfl rfl ?_ | refine wp_goto hk rfl ?_ | refine wp_geti hk rfl rfl rfl rfl ?_ | refine wp_getr hk rfl rfl rfl rfl ?_)
        exact wp_ir hk rfl rfl (kk M0 I0 H0)
    · have h' : isN a (vm (sV S)) = false := by simpa using h
      simp only [h', Bool.false_eq_true, if_false] at kk
      repeat (first | refine wp_s hk rfl rfl ?_ | refine wp_goto hk rfl ?_ | refine wp_geti hk rfl rfl rfl rfl ?_ | refine wp_getr hk rfl rfl rfl rfl ?_)
      exact wp_ir hk rfl rfl (kk M0 I0 H0)
  | false =>
    simp only [opLand, Bool.false_eq_true, if_false] at kk
    repeat (first | refine wp_s hk rfl rfl ?_ | refine wp_goto hk rfl ?_ | refine wp_geti hk rfl rfl rfl rfl ?_ | refine wp_getr hk rfl rfl rfl rfl ?_)
    refine wp_ifeqB (u := false) hk rfl rfl (fun _ => ?_) (fun y => by cases y)
    repeat (first | refine wp_s hk rfl rfl ?_ | refine wp_goto hk rfl ?_ | refine wp_geti hk rfl rfl rfl rfl ?_ | refine wp_getr hk rfl rfl rfl rfl ?_)
    refine wp_callV hk rfl rfl rfl rfl rfl rfl ?_
    refine m_noJudge I0.1.1 O.1.1 ho7 ?_
    refine wp_ifeqB (u := !isN a (vn (sV S))) hk rfl rfl (fun h => ?_) (fun h => ?_)
    · have h' : isN a (vn (sV S)) = true := by simpa using h
      repeat (first | refine wp_s hk rfl rfl ?_ | refine wp_goto hk rfl ?_ | refine wp_geti hk rfl rfl rfl rfl ?_ | refine wp_getr hk rfl rfl rfl rfl ?_)
      refine wp_callS hk rfl rfl rfl rfl ?_
      refine m_in ?_
      refine wp_ifneB (u := isN b 4) hk rfl (congrArg (fun z => nI (b2n z)) ((q_in64 (by omega) (by omega)).trans (q_isN_le (n := 3) (by omega)))) (fun g => ?_) (fun g => ?_)
      · obtain ⟨ha, ea⟩ := i2n_of (by omega) h'
        obtain ⟨hb, eb⟩ := i2n_of (by omega) g
        simp only [h', g, if_true] at kk
        rw [ea, eb]
        generalize i2n a = s at ha kk ⊢
        generalize i2n b = x at hb kk ⊢
        repeat (first | refine wp_s hk rfl rfl ?_ | refine wp_goto hk rfl ?_ | refine wp_geti hk rfl rfl rfl rfl ?_ | refine wp_getr hk rfl rfl rfl rfl ?_)
        refine wp_ifeqB (u := false) hk rfl rfl (fun _ => ?_) (fun y => by cases y)
        repeat (first | refine wp_s hk rfl rfl ?_ | refine wp_goto hk rfl ?_ | refine wp_geti hk rfl rfl rfl rfl ?_ | refine wp_getr hk rfl rfl rfl rfl ?_)
        refine wp_ald (jx := s) hk rfl rfl rfl (by omega) ?_
        rw [I0.1.2.2.2.2.1 s (by omega)]
        repeat (first | refine wp_s hk rfl rfl ?_ | refine wp_goto hk rfl ?_ | refine wp_geti hk rfl rfl rfl rfl ?_ | refine wp_getr hk rfl rfl rfl rfl ?_)
        refine wp_ifeqB (u := false) hk rfl rfl (fun _ => ?_) (fun y => by cases y)
        repeat (first | refine wp_s hk rfl rfl ?_ | refine wp_goto hk rfl ?_ | refine wp_geti hk rfl rfl rfl rfl ?_ | refine wp_getr hk rfl rfl rfl rfl ?_)
        refine wp_ast (jx := s) hk rfl rfl rfl (by omega) ?_
        repeat (first | refine wp_s hk rfl rfl ?_ | refine wp_goto hk rfl ?_ | refine wp_geti hk rfl rfl rfl rfl ?_ | refine wp_getr hk rfl rfl rfl rfl ?_)
        obtain ⟨c1, c2, c3, c4, c5, c6⟩ := I0.1
        refine wp_ir hk rfl rfl (kk _ (I0.card (V := setJ (sV S) s x) (fun i hi => ?_) ?_ ?_ ⟨?_, ?_, fun j hj => ?_, fun j hj t ht => ?_, fun j hj => ?_, fun t ht => ?_⟩) (H0.up (by decide)))
        · rw [q_up_ne _ _ (fun z => by simp only [List.mem_cons, List.not_mem_nil, or_false] at hi; omega)]
        · rw [q_up_ne _ _ (by decide)]
        · rw [q_up_ne _ _ (by decide)]
        · rw [q_up_ne _ _ (by decide)]; exact c1
        · rw [q_up_ne _ _ (by decide)]; exact c2
        · rw [q_up_ne _ _ (by decide)]; exact c3 j hj
        · rw [q_up_ne _ _ (by decide)]; exact c4 j hj t ht
        · rw [q_up_at]
          show _ = nI (updN (vj (sV S)) s x j)
          by_cases e : j = s
          · subst e; rw [upd_at, updN_at]
          · rw [upd_ne _ _ e, updN_ne _ _ e]; exact c5 j hj
        · rw [q_up_ne _ _ (by decide)]; exact c6 t ht
      · simp only [h', g, if_true, Bool.false_eq_true, if_false] at kk
        repeat (first | refine wp_s hk rfl rfl ?_ | refine wp_goto hk rfl ?_ | refine wp_geti hk rfl rfl rfl rfl ?_ | refine wp_getr hk rfl rfl rfl rfl ?_)
        exact wp_ir hk rfl rfl (kk M0 I0 H0)
    · have h' : isN a (vn (sV S)) = false := by simpa using h
      simp only [h', Bool.false_eq_true, if_false] at kk
      repeat (first | refine wp_s hk rfl rfl ?_ | refine wp_goto hk rfl ?_ | refine wp_geti hk rfl rfl rfl rfl ?_ | refine wp_getr hk rfl rfl rfl rfl ?_)
      exact wp_ir hk rfl rfl (kk M0 I0 H0)
