/-- what the reference may change besides its state -/
def RFr (M M' : MM) : Prop := (∀ i, i ∉ [83, 88, 89, 91, 92, 93, 96, 98, 99, 100] → M' i = M i) ∧ (∀ j, j ≠ 0 → j ≠ 11 → M' 83 j = M 83 j) ∧ ∀ j, j ≠ 9 → M' 96 j = M 96 j
theorem RFr.rf (M : MM) : RFr M M := ⟨fun _ _ => rfl, fun _ _ _ => rfl, fun _ _ => rfl⟩
theorem RFr.tr {M M1 M2 : MM} (h1 : RFr M M1) (h2 : RFr M1 M2) : RFr M M2 := ⟨fun i hi => (h2.1 i hi).trans (h1.1 i hi), fun j a b => (h2.2.1 j a b).trans (h1.2.1 j a b), fun j a => (h2.2.2 j a).trans (h1.2.2 j a)⟩
theorem RFr.kp {M M' : MM} {ids : List Nat} (h : Kp M M' ids) (hs : ∀ i ∈ ids, i ∈ [88, 89, 91, 92, 93, 98, 99, 100] := by decide) : RFr M M' := by
  refine ⟨fun i hi => h i (fun z => hi ?_), fun j _ _ => congrFun (h 83 (fun z => ?_)) j, fun j _ => congrFun (h 96 (fun z => ?_)) j⟩
  · have := hs i z
    simp only [List.mem_cons, List.not_mem_nil, or_false] at this ⊢
    omega
  · have := hs 83 z
    simp at this
  · have := hs 96 z
    simp at this
theorem RFr.th (M : MM) (x : Int32) : RFr M (q_up M 83 (upd (M 83) 0 x)) := ⟨fun i hi => q_up_ne _ _ (fun e => hi (by rw [e]; simp)), fun j h _ => by rw [q_up_at, upd_ne _ _ h], fun j _ => by rw [q_up_ne _ _ (by decide)]⟩
theorem RefInv.fr {M M' : MM} {S : St} (I : RefInv M S) (O : StOK S) (F : RFr M M') : RefInv M' S := by
  obtain ⟨⟨a1, a2, a3, a4, a5, a6⟩, ⟨b1, b2⟩, ⟨c1, c2, c3⟩, d1, e1⟩ := I
  obtain ⟨f1, f2, f3⟩ := F
  have g84 := f1 84 (by decide); have g85 := f1 85 (by decide); have g86 := f1 86 (by decide); have g87 := f1 87 (by decide); have g90 := f1 90 (by decide)
  have g94 := f1 94 (by decide); have g95 := f1 95 (by decide); have g97 := f1 97 (by decide)
  have g101 := f1 101 (by decide); have g102 := f1 102 (by decide); have g103 := f1 103 (by decide); have g104 := f1 104 (by decide); have g105 := f1 105 (by decide); have g106 := f1 106 (by decide)
  refine ⟨⟨by rw [f2 1 (by decide) (by decide)]; exact a1, by rw [f2 2 (by decide) (by decide)]; exact a2, by rw [g87]; exact a3, by rw [g86]; exact a4, by rw [g84]; exact a5, by rw [g85]; exact a6⟩,
    ⟨by rw [f2 10 (by decide) (by decide)]; exact b1, by rw [g90]; exact b2⟩, ⟨fun r hr => ?_, by rw [g94]; exact c2, by rw [g95]; exact c3⟩, by rw [f2 22 (by decide) (by decide)]; exact d1, fun i hi => ?_⟩
  · obtain ⟨x1, x2, x3, x4⟩ := c1 r hr
    refine ⟨by rw [g94]; exact x1, by rw [g95]; exact x2, fun i hi hk => ?_, by rw [g97]; exact x4⟩
    have := (O.2.2.1 r hr).2.1
    rw [f3 _ (by omega)]; exact x3 i hi hk
  · have := e1 i hi
    unfold RefPast at this ⊢
    rw [g101, g102, g103, g104, g105, g106]
    exact this
theorem wp_th {k i pc len c idx : Nat} {x : Int32} {cd : List q_Ent} {al : List (Option Value)} {st : List Value} {M : MM} {Q : Option Value → MM → Prop} (hk : q_cd k = cd) (h : cd[i]? = some (pc, len, .putfield idx, 9, 0, c, 0)) (kk : ∀ M0, RFr M M0 → WP k (i + 1) al st M0 Q) : WP k i al (.int x :: .ref 83 :: st) M Q :=
  wp_put hk h rfl rfl rfl rfl (kk _ (RFr.th M x))
/-- an int as a number -/
def i2n (x : Int32) : Nat := x.toNatClampNeg
theorem i2n_nI {n : Nat} (h : n < 2 ^ 31) : i2n (nI n) = n := nI_clamp h
theorem i2n_of {x : Int32} {n : Nat} (hn : n < 2 ^ 31) (h : isN x n = true) : i2n x < n ∧ x = nI (i2n x) := by
  obtain ⟨j, hj, rfl⟩ := isN_of hn h
  rw [i2n_nI (by omega)]
  exact ⟨hj, rfl⟩
def UNK : Int32 := Int32.ofInt (.negSucc 0)
def BAD : Int32 := Int32.ofInt (.negSucc 1)
def LATE : Int32 := Int32.ofInt (.negSucc 2)
def FULL : Int32 := Int32.ofInt (.negSucc 3)
def NON : Int32 := Int32.ofInt (.negSucc 8)
theorem vc_b2n {V : Vw} {j : Nat} (h : j < vn V) : vc V j = !(vL V).testBit j := by simp [vc, h]
theorem m_take {M : MM} {V : Vw} {Q : Option Value → MM → Prop} (I : RefCard M V) (O : VOK V) (kk : ∀ M', Kp M M' [88, 89] → RefV M' (vn V) (vm V) (vc V) (vk V) → Q none M') : Ca 153 [.ref 83] M Q := by
  obtain ⟨a1, a2, a3, a4, a5, a6⟩ := I
  obtain ⟨o1, o2, o3, o4, o5, o6, -⟩ := O
  have hk : q_cd 153 = kd_X9_take := rfl
  show WP 153 0 [some (.ref 83), none] [] M Q
  have l2 := q_dn (n := 28) (P := fun k => ∀ M1, Kp M M1 [88, 89] → (∀ j, j < 7 → M1 89 j = nI (b2n (vc V j))) → (∀ k', k' < k → M1 88 k' = M 86 k') → WP 153 27 [some (.ref 83), some (.int (nI k))] [.int (nI 28), .int (nI k)] M1 Q) (by
    intro M1 hK hc hq
    refine wp_icgeN hk rfl rfl rfl (by first | omega | decide) (by first | omega | decide) (fun _ => ?_) (fun h => absurd h (by omega))
    refine wp_vr hk rfl (kk M1 hK ⟨(congrFun (hK 83 (by decide)) 1).trans a1, (congrFun (hK 83 (by decide)) 2).trans a2, o2, o4, hc, fun j hj s hs => (hq _ (by omega)).trans (a4 j hj s hs), o6⟩)) (by
    intro k hk1 ih M1 hK hc hq
    refine wp_icgeN hk rfl rfl rfl (by first | omega | decide) (by first | omega | decide) (fun h => absurd h (by omega)) (fun _ => ?_)
    repeat (first | refine wp_s hk rfl rfl ?_ | refine wp_goto hk rfl ?_ | refine wp_geti hk rfl rfl rfl rfl ?_ | refine wp_getr hk rfl rfl rfl rfl ?_)
    refine wp_ald (jx := k) hk rfl rfl rfl (by omega) ?_
    rw [hK 86 (by decide)]
    refine wp_ast (jx := k) hk rfl rfl rfl (by omega) ?_
    repeat (first | refine wp_s hk rfl rfl ?_ | refine wp_goto hk rfl ?_ | refine wp_geti hk rfl rfl rfl rfl ?_ | refine wp_getr hk rfl rfl rfl rfl ?_)
    rw [q_nadd k 1]
    refine ih _ (hK.up (by decide)) (fun j hj => by rw [q_up_ne _ _ (by decide)]; exact hc j hj) (fun k' hk' => ?_)
    rw [q_up_at]
    by_cases e : k' = k
    · subst e; rw [upd_at]
    · rw [upd_ne _ _ e]; exact hq k' (by omega))
  have l1 := q_dn (n := 7) (P := fun j => ∀ M1, Kp M M1 [88, 89] → (∀ j', j' < j → M1 89 j' = nI (b2n (vc V j'))) → WP 153 4 [some (.ref 83), some (.int (nI j))] [.int (nI 7), .int (nI j)] M1 Q) (by
    intro M1 hK hc
    refine wp_icgeN hk rfl rfl rfl (by first | omega | decide) (by first | omega | decide) (fun _ => ?_) (fun h => absurd h (by omega))
    repeat (first | refine wp_s hk rfl rfl ?_ | refine wp_goto hk rfl ?_ | refine wp_geti hk rfl rfl rfl rfl ?_ | refine wp_getr hk rfl rfl rfl rfl ?_)
    exact l2 0 (Nat.zero_le _) M1 hK hc (fun k' hk' => absurd hk' (Nat.not_lt_zero _))) (by
    intro j hj ih M1 hK hc
    refine wp_icgeN hk rfl rfl rfl (by first | omega | decide) (by first | omega | decide) (fun h => absurd h (by omega)) (fun _ => ?_)
    have fin : ∀ z : Nat, z = b2n (vc V j) → WP 153 20 [some (.ref 83), some (.int (nI j))] [.int (nI z), .int (nI j), .ref 89] M1 Q := by
      intro z hz
      refine wp_bst (jx := j) hk rfl rfl rfl (by omega) (by rw [hz]; cases vc V j <;> decide) ?_
      repeat (first | refine wp_s hk rfl rfl ?_ | refine wp_goto hk rfl ?_ | refine wp_geti hk rfl rfl rfl rfl ?_ | refine wp_getr hk rfl rfl rfl rfl ?_)
      rw [q_nadd j 1]
      refine ih _ (hK.up (by decide)) (fun j' hj' => ?_)
      rw [q_up_at]
      by_cases e : j' = j
      · subst e; rw [upd_at, hz]
      · rw [upd_ne _ _ e]; exact hc j' (by omega)
    repeat (first | refine wp_s hk rfl rfl ?_ | refine wp_goto hk rfl ?_ | refine wp_geti hk rfl rfl rfl rfl ?_ | refine wp_getr hk rfl rfl rfl rfl ?_)
    refine wp_icgeN hk rfl rfl ((congrFun (hK 83 (by decide)) 1).trans a1) (by first | omega | decide) (by first | omega | decide) (fun h => ?_) (fun h => ?_)
    · refine wp_s hk rfl rfl ?_
      exact fin 0 (by simp [vc, b2n, Nat.not_lt.mpr h])
    · repeat (first | refine wp_s hk rfl rfl ?_ | refine wp_goto hk rfl ?_ | refine wp_geti hk rfl rfl rfl rfl ?_ | refine wp_getr hk rfl rfl rfl rfl ?_)
      refine wp_bld (jx := j) hk rfl rfl rfl (by omega) ?_
      rw [hK 87 (by decide)]
      refine wp_ifneB hk rfl (a3 j (by omega)) (fun h2 => ?_) (fun h2 => ?_)
      · refine wp_s hk rfl rfl ?_
        exact fin 0 (by simp [vc, b2n, h2])
      · refine wp_s hk rfl rfl ?_
        refine wp_goto hk rfl ?_
        exact fin 1 (by rw [vc_b2n (by omega), h2]; rfl))
  repeat (first | refine wp_s hk rfl rfl ?_ | refine wp_goto hk rfl ?_ | refine wp_geti hk rfl rfl rfl rfl ?_ | refine wp_getr hk rfl rfl rfl rfl ?_)
  exact l1 0 (Nat.zero_le _) M (Kp.rf _ _) (fun j' hj' => absurd hj' (Nat.not_lt_zero _))
/-- the worths of a state's card by a rule -/
def wS (V : Vw) (R : Ru) : Nat → Nat → Nat := worthW (vn V) (vm V) (vc V) (vk V) R
def spPlace (S : St) (a b : Int32) : Int32 := if isN a 3 && isN b (vm (sV S)) then nI (placeW (wS (sV S) (sR S (i2n a))) (sR S (i2n a)).1 (vm (sV S)) (i2n b)) else UNK
def spFirst (S : St) (a : Int32) : Int32 := if isN a 3 then nI (firstW (wS (sV S) (sR S (i2n a))) (sR S (i2n a)).1 (vm (sV S)) (vm (sV S))) else UNK
def spWorth (S : St) (a b c : Int32) : Int32 := if isN a 3 && isN b (vm (sV S)) then (if isN c (sR S (i2n a)).1 then nI (wS (sV S) (sR S (i2n a)) (i2n c) (i2n b)) else BAD) else UNK
theorem m_place {M : MM} {S : St} {a b : Int32} {Q : Option Value → MM → Prop} (I : RefInv M S) (O : StOK S) (kk : ∀ M', RFr M M' → Q (some (.int (spPlace S a b))) M') : Ca 166 [.ref 83, .int a, .int b] M Q := by
  have hk : q_cd 166 = kd_X9_place := rfl
  show WP 166 0 [some (.ref 83), some (.int a), some (.int b)] [] M Q
  repeat (first | refine wp_s hk rfl rfl ?_ | refine wp_goto hk rfl ?_ | refine wp_geti hk rfl rfl rfl rfl ?_ | refine wp_getr hk rfl rfl rfl rfl ?_)
  refine wp_th hk rfl (fun M0 F0 => ?_)
  have I0 := I.fr O F0
  repeat (first | refine wp_s hk rfl rfl ?_ | refine wp_goto hk rfl ?_ | refine wp_geti hk rfl rfl rfl rfl ?_ | refine wp_getr hk rfl rfl rfl rfl ?_)
  refine wp_callS hk rfl rfl rfl rfl ?_
  refine m_noRule ?_
  refine wp_ifneB (u := !isN a 3) hk rfl rfl (fun h => ?_) (fun h => ?_)
  · repeat (first | refine wp_s hk rfl rfl ?_ | refine wp_goto hk rfl ?_ | refine wp_geti hk rfl rfl rfl rfl ?_ | refine wp_getr hk rfl rfl rfl rfl ?_)
    refine wp_ir hk rfl rfl ?_
    have h' : isN a 3 = false := by simpa using h
    have := kk M0 F0
    simp only [spPlace, h', Bool.false_and] at this
    exact this
  · have h' : isN a 3 = true := by simpa using h
    repeat (first | refine wp_s hk rfl rfl ?_ | refine wp_goto hk rfl ?_ | refine wp_geti hk rfl rfl rfl rfl ?_ | refine wp_getr hk rfl rfl rfl rfl ?_)
    refine wp_callV hk rfl rfl rfl rfl rfl rfl ?_
    refine m_noSkater I0.1.2.1 O.1.2.2.1 (Nat.le_trans O.1.2.2.2.1 (by omega)) ?_
    refine wp_ifeqB (u := !isN b (vm (sV S))) hk rfl rfl (fun g => ?_) (fun g => ?_)
    · have g' : isN b (vm (sV S)) = true := by simpa using g
      have ho4 := O.1.2.2.2.1
      obtain ⟨hr, ea⟩ := i2n_of (by omega) h'
      obtain ⟨hs, eb⟩ := i2n_of (by omega) g'
      repeat (first | refine wp_s hk rfl rfl ?_ | refine wp_goto hk rfl ?_ | refine wp_geti hk rfl rfl rfl rfl ?_ | refine wp_getr hk rfl rfl rfl rfl ?_)
      refine wp_callV hk rfl rfl rfl rfl rfl rfl ?_
      refine m_take I0.1 O.1 (fun M1 K1 V1 => ?_)
      repeat (first | refine wp_s hk rfl rfl ?_ | refine wp_goto hk rfl ?_ | refine wp_geti hk rfl rfl rfl rfl ?_ | refine wp_getr hk rfl rfl rfl rfl ?_)
      rw [ea]
      refine wp_callV hk rfl rfl rfl rfl rfl rfl ?_
      refine m_lay V1 (by omega) ((I0.2.2.1.1 _ hr).kp K1 (by decide) (by decide) (by decide) (by decide)) (O.2.2.1 _ hr) (fun M2 K2 W2 => ?_)
      repeat (first | refine wp_s hk rfl rfl ?_ | refine wp_goto hk rfl ?_ | refine wp_geti hk rfl rfl rfl rfl ?_ | refine wp_getr hk rfl rfl rfl rfl ?_)
      rw [eb]
      refine wp_callV hk rfl rfl rfl rfl rfl rfl ?_
      refine m_placeOf W2 (by omega) hs ?_
      refine wp_ir hk rfl rfl ?_
      have := kk M2 (F0.tr ((RFr.kp K1).tr (RFr.kp K2)))
      simp only [spPlace, h', g', Bool.and_self, if_true] at this
      exact this
    · repeat (first | refine wp_s hk rfl rfl ?_ | refine wp_goto hk rfl ?_ | refine wp_geti hk rfl rfl rfl rfl ?_ | refine wp_getr hk rfl rfl rfl rfl ?_)
      refine wp_ir hk rfl rfl ?_
      have g' : isN b (vm (sV S)) = false := by simpa using g
      have := kk M0 F0
      simp only [spPlace, h', g', Bool.and_false] at this
      exact this
