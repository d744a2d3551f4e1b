def opMark (S : St) (a b c : Int32) : Int32 × St := if isN a (vn (sV S)) && isN b (vm (sV S)) then (if isN c 6 then (nI (vk (sV S) (i2n a) (i2n b)), stV S (setK (sV S) (mkM (vk (sV S)) (i2n a) (i2n b) (i2n c)))) else (BAD, S)) else (UNK, S)
theorem m_mark {M : MM} {S : St} {a b c : Int32} {Q : Option Value → MM → Prop} (I : RefInv M S) (O : StOK S) (kk : ∀ M', RefInv M' (opMark S a b c).2 → Hi M M' → Q (some (.int (opMark S a b c).1)) M') : Ca 142 [.ref 83, .int a, .int b, .int c] M Q := by
  have ho1 := O.1.2.2.1
  have ho4 := O.1.2.2.2.1
  have ho7 := O.1.2.1
  have hk : q_cd 142 = kd_X9_mark := rfl
  show WP 142 0 [some (.ref 83), some (.int a), some (.int b), some (.int c), none] [] M Q
  repeat (first | refine wp_s hk rfl rfl ?_ | refine wp_goto hk rfl ?_ | refine wp_geti hk rfl rfl rfl rfl ?_ | refine wp_getr hk rfl rfl rfl rfl ?_)
  refine wp_th hk rfl (fun M0 F0 => ?_)
  have I0 := I.fr O F0
  have H0 := Hi.fr F0
  unfold opMark at kk
  repeat (first | refine wp_s hk rfl rfl ?_ | refine wp_goto hk rfl ?_ | refine wp_geti hk rfl rfl rfl rfl ?_ | refine wp_getr hk rfl rfl rfl rfl ?_)
  refine wp_callV hk rfl rfl rfl rfl rfl rfl ?_
  refine m_noJudge I0.1.1 O.1.1 ho7 ?_
  refine wp_ifneB (u := !isN a (vn (sV S))) hk rfl rfl (fun h => ?_) (fun h => ?_)
  · have h' : isN a (vn (sV S)) = false := by simpa using h
    rw [h'] at kk
    repeat (first | refine wp_s hk rfl rfl ?_ | refine wp_goto hk rfl ?_ | refine wp_geti hk rfl rfl rfl rfl ?_ | refine wp_getr hk rfl rfl rfl rfl ?_)
    exact wp_ir hk rfl rfl (kk M0 I0 H0)
  have h' : isN a (vn (sV S)) = true := by simpa using h
  repeat (first | refine wp_s hk rfl rfl ?_ | refine wp_goto hk rfl ?_ | refine wp_geti hk rfl rfl rfl rfl ?_ | refine wp_getr hk rfl rfl rfl rfl ?_)
  refine wp_callV hk rfl rfl rfl rfl rfl rfl ?_
  refine m_noSkater I0.1.2.1 ho1 (by omega) ?_
  refine wp_ifeqB (u := !isN b (vm (sV S))) hk rfl rfl (fun f => ?_) (fun f => ?_)
  · have f' : isN b (vm (sV S)) = true := by simpa using f
    repeat (first | refine wp_s hk rfl rfl ?_ | refine wp_goto hk rfl ?_ | refine wp_geti hk rfl rfl rfl rfl ?_ | refine wp_getr hk rfl rfl rfl rfl ?_)
    refine wp_callS hk rfl rfl rfl rfl ?_
    refine m_in ?_
    rw [if_pos (by rw [h', f']; rfl)] at kk
    refine wp_ifneB (u := isN c 6) hk rfl (congrArg (fun z => nI (b2n z)) ((q_in64 (by omega) (by omega)).trans (q_isN_le (n := 5) (by omega)))) (fun g => ?_) (fun g => ?_)
    · rw [if_pos g] at kk
      obtain ⟨ha, ea⟩ := i2n_of (by omega) h'
      obtain ⟨hb, eb⟩ := i2n_of (by omega) f'
      obtain ⟨hc, ec⟩ := i2n_of (by omega) g
      rw [ea, eb, ec]
      generalize i2n a = j at ha kk ⊢
      generalize i2n b = s at hb kk ⊢
      generalize i2n c = v at hc kk ⊢
      repeat (first | refine wp_s hk rfl rfl ?_ | refine wp_goto hk rfl ?_ | refine wp_geti hk rfl rfl rfl rfl ?_ | refine wp_getr hk rfl rfl rfl rfl ?_)
      refine wp_ald (jx := 4 * j + s) hk rfl rfl (by simp only [q_nadd, q_nmul]) (by omega) ?_
      obtain ⟨c1, c2, c3, c4, c5, c6⟩ := I0.1
      rw [c4 j (by omega) s (by omega)]
      repeat (first | refine wp_s hk rfl rfl ?_ | refine wp_goto hk rfl ?_ | refine wp_geti hk rfl rfl rfl rfl ?_ | refine wp_getr hk rfl rfl rfl rfl ?_)
      refine wp_ast (jx := 4 * j + s) hk rfl rfl (by simp only [q_nadd, q_nmul]) (by omega) ?_
      repeat (first | refine wp_s hk rfl rfl ?_ | refine wp_goto hk rfl ?_ | refine wp_geti hk rfl rfl rfl rfl ?_ | refine wp_getr hk rfl rfl rfl rfl ?_)
      refine wp_ir hk rfl rfl (kk _ (I0.card (V := setK (sV S) (mkM (vk (sV S)) j s v)) (fun i hi => ?_) ?_ ?_ ⟨?_, ?_, fun j' hj => ?_, fun j' hj t ht => ?_, fun j' hj => ?_, fun t ht => ?_⟩) (H0.up (by decide)))
      · rw [q_up_ne _ _ (fun z => by simp only [List.mem_cons, List.not_mem_nil, or_false] at hi; omega)]
      · rw [q_up_ne _ _ (by decide)]
      · rw [q_up_ne _ _ (by decide)]
      · rw [q_up_ne _ _ (by decide)]; exact c1
      · rw [q_up_ne _ _ (by decide)]; exact c2
      · rw [q_up_ne _ _ (by decide)]; exact c3 j' hj
      · rw [q_up_at]
        show _ = nI (mkM (vk (sV S)) j s v j' t)
        simp only [mkM]
        by_cases e : j' = j ∧ t = s
        · obtain ⟨rfl, rfl⟩ := e
          rw [upd_at, if_pos ⟨rfl, rfl⟩]
        · rw [upd_ne _ _ (by omega), if_neg e]; exact c4 j' hj t ht
      · rw [q_up_ne _ _ (by decide)]; exact c5 j' hj
      · rw [q_up_ne _ _ (by decide)]; exact c6 t ht
    · rw [if_neg (by rw [g]; exact Bool.false_ne_true)] at kk
      repeat (first | refine wp_s hk rfl rfl ?_ | refine wp_goto hk rfl ?_ | refine wp_geti hk rfl rfl rfl rfl ?_ | refine wp_getr hk rfl rfl rfl rfl ?_)
      exact wp_ir hk rfl rfl (kk M0 I0 H0)
  · have f' : isN b (vm (sV S)) = false := by simpa using f
    rw [if_neg (by rw [f', Bool.and_false]; exact Bool.false_ne_true)] at kk
    repeat (first | refine wp_s hk rfl rfl ?_ | refine wp_goto hk rfl ?_ | refine wp_geti hk rfl rfl rfl rfl ?_ | refine wp_getr hk rfl rfl rfl rfl ?_)
    exact wp_ir hk rfl rfl (kk M0 I0 H0)
/-- a judge's card as one number -/
def rowW (f : Nat → Nat) : Nat → Nat
  | 0 => 0
  | s + 1 => 6 * rowW f s + f s
def opCard (S : St) (a b : Int32) : Int32 × St := if isN a (vn (sV S)) then (if isN b (6 ^ vm (sV S)) then (nI (rowW (vk (sV S) (i2n a)) (vm (sV S))), stV S (setK (sV S) (mkG (vk (sV S)) (vm (sV S)) (i2n a) (i2n b)))) else (BAD, S)) else (UNK, S)
theorem m_card {M : MM} {S : St} {a b : Int32} {Q : Option Value → MM → Prop} (I : RefInv M S) (O : StOK S) (kk : ∀ M', RefInv M' (opCard S a b).2 → Hi M M' → Q (some (.int (opCard S a b).1)) M') : Ca 143 [.ref 83, .int a, .int b] M Q := by
  have ho1 := O.1.2.2.1
  have ho4 := O.1.2.2.2.1
  have ho7 := O.1.2.1
  have hrows := m_rows ho4
  have hp6 : 1 ≤ 6 ^ vm (sV S) := Nat.one_le_pow _ _ (by omega)
  have hk : q_cd 143 = kd_X9_card := rfl
  show WP 143 0 [some (.ref 83), some (.int a), some (.int b), none, none, none] [] M Q
  repeat (first | refine wp_s hk rfl rfl ?_ | refine wp_goto hk rfl ?_ | refine wp_geti hk rfl rfl rfl rfl ?_ | refine wp_getr hk rfl rfl rfl rfl ?_)
  refine wp_th hk rfl (fun M0 F0 => ?_)
  have I0 := I.fr O F0
  have H0 := Hi.fr F0
  unfold opCard at kk
  repeat (first | refine wp_s hk rfl rfl ?_ | refine wp_goto hk rfl ?_ | refine wp_geti hk rfl rfl rfl rfl ?_ | refine wp_getr hk rfl rfl rfl rfl ?_)
  refine wp_callV hk rfl rfl rfl rfl rfl rfl ?_
  refine m_noJudge I0.1.1 O.1.1 ho7 ?_
  refine wp_ifeqB (u := !isN a (vn (sV S))) hk rfl rfl (fun h => ?_) (fun h => ?_)
  · have h' : isN a (vn (sV S)) = true := by simpa using h
    rw [if_pos h'] at kk
    repeat (first | refine wp_s hk rfl rfl ?_ | refine wp_goto hk rfl ?_ | refine wp_geti hk rfl rfl rfl rfl ?_ | refine wp_getr hk rfl rfl rfl rfl ?_)
    refine wp_callV hk rfl rfl rfl rfl rfl rfl ?_
    refine m_cards I0.1.2.1 ho4 ?_
    repeat (first | refine wp_s hk rfl rfl ?_ | refine wp_goto hk rfl ?_ | refine wp_geti hk rfl rfl rfl rfl ?_ | refine wp_getr hk rfl rfl rfl rfl ?_)
    rw [q_nsub hp6]
    refine wp_callS hk rfl rfl rfl rfl ?_
    refine m_in ?_
    refine wp_ifneB (u := isN b (6 ^ vm (sV S))) hk rfl (congrArg (fun z => nI (b2n z)) (q_in0 hp6 (by omega))) (fun g => ?_) (fun g => ?_)
    · rw [if_pos g] at kk
      obtain ⟨ha, ea⟩ := i2n_of (by omega) h'
      obtain ⟨hb, eb⟩ := i2n_of (by omega) g
      rw [ea, eb]
      generalize i2n a = j at ha kk ⊢
      generalize i2n b = v at hb kk ⊢
      obtain ⟨c1, c2, c3, c4, c5, c6⟩ := I0.1
      have loop : ∀ t, t ≤ vm (sV S) → ∀ M1, Kp M0 M1 [86] → (∀ j', j' < 7 → ∀ s', s' < 4 → M1 86 (4 * j' + s') = nI (if j' = j ∧ t ≤ s' ∧ s' < vm (sV S) then dig (vm (sV S)) v s' else vk (sV S) j' s')) → WP 143 52 [some (.ref 83), some (.int (nI j)), some (.int (nI v)), some (.int (nI (rowW (vk (sV S) j) (vm (sV S))))), some (.int (nI (v / 6 ^ (vm (sV S) - t)))), some (.int (nI t - nI 1))] [.int (nI t - nI 1)] M1 Q := by
        intro t
        induction t with
        | zero =>
          intro ht M1 K1 hq1
          refine wp_ifltD (u := 0) (v := 1) hk rfl rfl (by omega) (by omega) (fun _ => ?_) (fun h => absurd h (by omega))
          repeat (first | refine wp_s hk rfl rfl ?_ | refine wp_goto hk rfl ?_ | refine wp_geti hk rfl rfl rfl rfl ?_ | refine wp_getr hk rfl rfl rfl rfl ?_)
          refine wp_ir hk rfl rfl (kk _ (I0.card (V := setK (sV S) (mkG (vk (sV S)) (vm (sV S)) j v)) (fun i hi => ?_) ?_ ?_ ⟨?_, ?_, fun j' hj => ?_, fun j' hj t ht => ?_, fun j' hj => ?_, fun t ht => ?_⟩) (H0.tr (Hi.kp K1)))
          · rw [K1 i (fun z => by simp only [List.mem_cons, List.not_mem_nil, or_false] at z hi; omega)]
          · rw [K1 83 (by decide)]
          · rw [K1 83 (by decide)]
          · rw [K1 83 (by decide)]; exact c1
          · rw [K1 83 (by decide)]; exact c2
          · rw [K1 87 (by decide)]; exact c3 j' hj
          · rw [hq1 j' hj t ht]
            show _ = nI (mkG (vk (sV S)) (vm (sV S)) j v j' t)
            simp only [mkG, Nat.zero_le, true_and]
          · rw [K1 84 (by decide)]; exact c5 j' hj
          · rw [K1 85 (by decide)]; exact c6 t ht
        | succ t ih =>
          intro ht M1 K1 hq1
          refine wp_ifltD (u := t + 1) (v := 1) hk rfl rfl (by omega) (by omega) (fun h => absurd h (by omega)) (fun _ => ?_)
          rw [q_nsub (Nat.le_add_left 1 t), Nat.add_sub_cancel]
          have hlt : v / 6 ^ (vm (sV S) - (t + 1)) < 2000 := Nat.lt_of_le_of_lt (Nat.div_le_self _ _) (by omega)
          repeat (first | refine wp_s hk rfl rfl ?_ | refine wp_goto hk rfl ?_ | refine wp_geti hk rfl rfl rfl rfl ?_ | refine wp_getr hk rfl rfl rfl rfl ?_)
          refine wp_rem hk rfl (by decide) ?_
          rw [q_nrem (b := 6) (by omega) (by omega) (by omega)]
          refine wp_ast (jx := 4 * j + t) hk rfl rfl (by simp only [q_nadd, q_nmul]) (by omega) ?_
          repeat (first | refine wp_s hk rfl rfl ?_ | refine wp_goto hk rfl ?_ | refine wp_geti hk rfl rfl rfl rfl ?_ | refine wp_getr hk rfl rfl rfl rfl ?_)
          refine wp_div hk rfl (by decide) ?_
          rw [q_ndiv (b := 6) (by omega) (by omega) (by omega)]
          repeat (first | refine wp_s hk rfl rfl ?_ | refine wp_goto hk rfl ?_ | refine wp_geti hk rfl rfl rfl rfl ?_ | refine wp_getr hk rfl rfl rfl rfl ?_)
          rw [q_dec2]
          have e6 : v / 6 ^ (vm (sV S) - (t + 1)) / 6 = v / 6 ^ (vm (sV S) - t) := by
            rw [Nat.div_div_eq_div_mul, ← Nat.pow_succ, show (vm (sV S) - (t + 1)).succ = vm (sV S) - t by omega]
          rw [e6]
          refine ih (by omega) _ (K1.up (by decide)) (fun j' hj' s' hs' => ?_)
          rw [q_up_at]
          by_cases e : j' = j ∧ s' = t
          · obtain ⟨rfl, rfl⟩ := e
            rw [upd_at, if_pos ⟨rfl, Nat.le_refl _, by omega⟩]
            unfold dig
            rw [show vm (sV S) - 1 - s' = vm (sV S) - (s' + 1) by omega]
          · rw [upd_ne _ _ (by omega), hq1 j' hj' s' hs']
            congr 1
            by_cases e2 : j' = j ∧ t + 1 ≤ s' ∧ s' < vm (sV S)
            · rw [if_pos e2, if_pos (by omega)]
            · rw [if_neg e2, if_neg (by omega)]
      have l1 := q_dn (n := vm (sV S)) (P := fun s => WP 143 28 [some (.ref 83), some (.int (nI j)), some (.int (nI v)), some (.int (nI (rowW (vk (sV S) j) s))), some (.int (nI s)), none] [.int (M0 83 2), .int (nI s)] M0 Q) (by
        refine wp_icgeN (u := vm (sV S)) (v := vm (sV S)) hk rfl rfl c2 (by omega) (by omega) (fun _ => ?_) (fun z => absurd z (by omega))
        have := loop _ (Nat.le_refl _) M0 (Kp.rf _ _) (fun j' hj' s' hs' => by rw [c4 j' hj' s' hs', if_neg (by omega)])
        rw [Nat.sub_self, Nat.pow_zero, Nat.div_one] at this
        repeat (first | refine wp_s hk rfl rfl ?_ | refine wp_goto hk rfl ?_ | refine wp_geti hk rfl rfl rfl rfl ?_ | refine wp_getr hk rfl rfl rfl rfl ?_)
        rw [c2]
        exact this) (by
        intro s hs ih
        simp only [rowW] at ih
        refine wp_icgeN (u := s) (v := vm (sV S)) hk rfl rfl c2 (by omega) (by omega) (fun z => absurd z (by omega)) (fun _ => ?_)
        repeat (first | refine wp_s hk rfl rfl ?_ | refine wp_goto hk rfl ?_ | refine wp_geti hk rfl rfl rfl rfl ?_ | refine wp_getr hk rfl rfl rfl rfl ?_)
        refine wp_ald (jx := 4 * j + s) hk rfl rfl (by simp only [q_nadd, q_nmul]) (by omega) ?_
        rw [c4 j (by omega) s (by omega)]
        repeat (first | refine wp_s hk rfl rfl ?_ | refine wp_goto hk rfl ?_ | refine wp_geti hk rfl rfl rfl rfl ?_ | refine wp_getr hk rfl rfl rfl rfl ?_)
        rw [q_nadd s 1, q_nmul, q_nadd]
        exact ih)
      repeat (first | refine wp_s hk rfl rfl ?_ | refine wp_goto hk rfl ?_ | refine wp_geti hk rfl rfl rfl rfl ?_ | refine wp_getr hk rfl rfl rfl rfl ?_)
      exact l1 0 (Nat.zero_le _)
    · rw [if_neg (by rw [g]; exact Bool.false_ne_true)] at kk
      repeat (first | refine wp_s hk rfl rfl ?_ | refine wp_goto hk rfl ?_ | refine wp_geti hk rfl rfl rfl rfl ?_ | refine wp_getr hk rfl rfl rfl rfl ?_)
      exact wp_ir hk rfl rfl (kk M0 I0 H0)
  · have h' : isN a (vn (sV S)) = false := by simpa using h
    rw [if_neg (by rw [h']; exact Bool.false_ne_true)] at kk
    repeat (first | refine wp_s hk rfl rfl ?_ | refine wp_goto hk rfl ?_ | refine wp_geti hk rfl rfl rfl rfl ?_ | refine wp_getr hk rfl rfl rfl rfl ?_)
    exact wp_ir hk rfl rfl (kk M0 I0 H0)
/-- the lost ones after one more or one less -/
def stB (L a : Nat) (z : Bool) : Nat := if z = true then L ||| 2 ^ a else (if L.testBit a = true then L - 2 ^ a else L)
theorem stB_bit : ∀ L, L < 128 → ∀ a, a < 7 → ∀ z, stB L a z < 128 ∧ ∀ j, j < 7 → (stB L a z).testBit j = if j = a then z else L.testBit j := by decide +kernel
def opLose (S : St) (a : Int32) (z : Bool) : Int32 × St := if isN a (vn (sV S)) then (nI (b2n ((vL (sV S)).testBit (i2n a))), stV S (setL (sV S) (stB (vL (sV S)) (i2n a) z))) else (UNK, S)
theorem m_lose {M : MM} {S : St} {a : Int32} {z : Bool} {Q : Option Value → MM → Prop} (I : RefInv M S) (O : StOK S) (kk : ∀ M', RefInv M' (opLose S a z).2 → Hi M M' → Q (some (.int (opLose S a z).1)) M') : Ca 144 [.ref 83, .int a, .int (nI (b2n z))] M Q := by
  have ho7 := O.1.2.1
  have hL := O.1.2.2.2.2.1
  have hk : q_cd 144 = kd_X9_lose := rfl
  show WP 144 0 [some (.ref 83), some (.int a), some (.int (nI (b2n z))), none] [] M Q
  repeat (first | refine wp_s hk rfl rfl ?_ | refine wp_goto hk rfl ?_ | refine wp_geti hk rfl rfl rfl rfl ?_ | refine wp_getr hk rfl rfl rfl rfl ?_)
  refine wp_th hk rfl (fun M0 F0 => ?_)
  have I0 := I.fr O F0
  have H0 := Hi.fr F0
  unfold opLose at kk
  repeat (first | refine wp_s hk rfl rfl ?_ | refine wp_goto hk rfl ?_ | refine wp_geti hk rfl rfl rfl rfl ?_ | refine wp_getr hk rfl rfl rfl rfl ?_)
  refine wp_callV hk rfl rfl rfl rfl rfl rfl ?_
  refine m_noJudge I0.1.1 O.1.1 ho7 ?_
  refine wp_ifeqB (u := !isN a (vn (sV S))) hk rfl rfl (fun h => ?_) (fun h => ?_)
  · have h' : isN a (vn (sV S)) = true := by simpa using h
    rw [if_pos h'] at kk
    obtain ⟨ha, ea⟩ := i2n_of (by omega) h'
    rw [ea]
    generalize i2n a = j at ha kk ⊢
    obtain ⟨c1, c2, c3, c4, c5, c6⟩ := I0.1
    have fin : ∀ x3, WP 144 17 [some (.ref 83), some (.int (nI j)), some (.int (nI (b2n z))), x3] [.int (nI (b2n ((vL (sV S)).testBit j)))] M0 Q := by
      intro x3
      repeat (first | refine wp_s hk rfl rfl ?_ | refine wp_goto hk rfl ?_ | refine wp_geti hk rfl rfl rfl rfl ?_ | refine wp_getr hk rfl rfl rfl rfl ?_)
      refine wp_bst (jx := j) hk rfl rfl rfl (by omega) (by cases z; exact Or.inl (by decide); exact Or.inr (by decide)) ?_
      repeat (first | refine wp_s hk rfl rfl ?_ | refine wp_goto hk rfl ?_ | refine wp_geti hk rfl rfl rfl rfl ?_ | refine wp_getr hk rfl rfl rfl rfl ?_)
      have hb := (stB_bit _ hL j (by omega) z).2
      refine wp_ir hk rfl rfl (kk _ (I0.card (V := setL (sV S) (stB (vL (sV S)) j z)) (fun i hi => ?_) ?_ ?_ ⟨?_, ?_, fun j' hj => ?_, fun j' hj t ht => ?_, fun j' hj => ?_, fun t ht => ?_⟩) (H0.up (by decide)))
      · rw [q_up_ne _ _ (fun z => by simp only [List.mem_cons, List.not_mem_nil, or_false] at hi; omega)]
      · rw [q_up_ne _ _ (by decide)]
      · rw [q_up_ne _ _ (by decide)]
      · rw [q_up_ne _ _ (by decide)]; exact c1
      · rw [q_up_ne _ _ (by decide)]; exact c2
      · rw [q_up_at]
        show _ = nI (b2n ((stB (vL (sV S)) j z).testBit j'))
        rw [hb j' hj]
        by_cases e : j' = j
        · subst e; rw [upd_at, if_pos rfl]
        · rw [upd_ne _ _ e, if_neg e]; exact c3 j' hj
      · rw [q_up_ne _ _ (by decide)]; exact c4 j' hj t ht
      · rw [q_up_ne _ _ (by decide)]; exact c5 j' hj
      · rw [q_up_ne _ _ (by decide)]; exact c6 t ht
    repeat (first | refine wp_s hk rfl rfl ?_ | refine wp_goto hk rfl ?_ | refine wp_geti hk rfl rfl rfl rfl ?_ | refine wp_getr hk rfl rfl rfl rfl ?_)
    refine wp_bld (jx := j) hk rfl rfl rfl (by omega) ?_
    refine wp_ifeqB hk rfl (c3 j (by omega)) (fun y => ?_) (fun y => ?_)
    · refine wp_s hk rfl rfl ?_
      rw [y] at fin
      exact fin _
    · refine wp_s hk rfl rfl ?_
      refine wp_goto hk rfl ?_
      rw [y] at fin
      exact fin _
  · have h' : isN a (vn (sV S)) = false := by simpa using h
    rw [if_neg (by rw [h']; exact Bool.false_ne_true)] at kk
    repeat (first | refine wp_s hk rfl rfl ?_ | refine wp_goto hk rfl ?_ | refine wp_geti hk rfl rfl rfl rfl ?_ | refine wp_getr hk rfl rfl rfl rfl ?_)
    exact wp_ir hk rfl rfl (kk M0 I0 H0)
def spAt (S : St) (a b : Int32) : Int32 := if isN a (vn (sV S)) && isN b (vm (sV S)) then nI (vk (sV S) (i2n a) (i2n b)) else UNK
theorem m_at {M : MM} {S : St} {a b : Int32} {Q : Option Value → MM → Prop} (I : RefInv M S) (O : StOK S) (kk : ∀ M', RFr M M' → Q (some (.int (spAt S a b))) M') : Ca 145 [.ref 83, .int a, .int b] M Q := by
  have ho1 := O.1.2.2.1
  have ho4 := O.1.2.2.2.1
  have ho7 := O.1.2.1
  have hk : q_cd 145 = kd_X9_at := rfl
  show WP 145 0 [some (.ref 83), some (.int a), some (.int b)] [] M Q
  repeat (first | refine wp_s hk rfl rfl ?_ | refine wp_goto hk rfl ?_ | refine wp_geti hk rfl rfl rfl rfl ?_ | refine wp_getr hk rfl rfl rfl rfl ?_)
  refine wp_th hk rfl (fun M0 F0 => ?_)
  have I0 := I.fr O F0
  repeat (first | refine wp_s hk rfl rfl ?_ | refine wp_goto hk rfl ?_ | refine wp_geti hk rfl rfl rfl rfl ?_ | refine wp_getr hk rfl rfl rfl rfl ?_)
  refine wp_callV hk rfl rfl rfl rfl rfl rfl ?_
  refine m_noJudge I0.1.1 O.1.1 ho7 ?_
  refine wp_ifneB (u := !isN a (vn (sV S))) hk rfl rfl (fun h => ?_) (fun h => ?_)
  · have h' : isN a (vn (sV S)) = false := by simpa using h
    repeat (first | refine wp_s hk rfl rfl ?_ | refine wp_goto hk rfl ?_ | refine wp_geti hk rfl rfl rfl rfl ?_ | refine wp_getr hk rfl rfl rfl rfl ?_)
    refine wp_ir hk rfl rfl ?_
    have hkk := kk M0 F0
    simp only [spAt, h', Bool.and_self, Bool.true_and, Bool.and_true, Bool.false_and, Bool.and_false, if_true, Bool.false_eq_true, if_false, Bool.not_true, Bool.not_false] at hkk
    exact hkk
  have h' : isN a (vn (sV S)) = true := by simpa using h
  repeat (first | refine wp_s hk rfl rfl ?_ | refine wp_goto hk rfl ?_ | refine wp_geti hk rfl rfl rfl rfl ?_ | refine wp_getr hk rfl rfl rfl rfl ?_)
  refine wp_callV hk rfl rfl rfl rfl rfl rfl ?_
  refine m_noSkater I0.1.2.1 ho1 (by omega) ?_
  refine wp_ifeqB (u := !isN b (vm (sV S))) hk rfl rfl (fun f => ?_) (fun f => ?_)
  · have f' : isN b (vm (sV S)) = true := by simpa using f
    obtain ⟨ha, ea⟩ := i2n_of (by omega) h'
    obtain ⟨hb, eb⟩ := i2n_of (by omega) f'
    rw [ea, eb]
    repeat (first | refine wp_s hk rfl rfl ?_ | refine wp_goto hk rfl ?_ | refine wp_geti hk rfl rfl rfl rfl ?_ | refine wp_getr hk rfl rfl rfl rfl ?_)
    refine wp_ald (jx := 4 * i2n a + i2n b) hk rfl rfl (by simp only [q_nadd, q_nmul]) (by omega) ?_
    rw [I0.1.2.2.2.1 _ (by omega) _ (by omega)]
    refine wp_ir hk rfl rfl ?_
    have hkk := kk M0 F0
    simp only [spAt, h', f', Bool.and_self, Bool.true_and, Bool.and_true, Bool.false_and, Bool.and_false, if_true, Bool.false_eq_true, if_false, Bool.not_true, Bool.not_false] at hkk
    exact hkk
  · have f' : isN b (vm (sV S)) = false := by simpa using f
    repeat (first | refine wp_s hk rfl rfl ?_ | refine wp_goto hk rfl ?_ | refine wp_geti hk rfl rfl rfl rfl ?_ | refine wp_getr hk rfl rfl rfl rfl ?_)
    refine wp_ir hk rfl rfl ?_
    have hkk := kk M0 F0
    simp only [spAt, h', f', Bool.and_self, Bool.true_and, Bool.and_true, Bool.false_and, Bool.and_false, if_true, Bool.false_eq_true, if_false, Bool.not_true, Bool.not_false] at hkk
    exact hkk
def opWipe (S : St) : Int32 × St := (nI (sT S).1, (sV S, (0, (sT S).2), sR S, sN S, sP S))
theorem m_wipe {M : MM} {S : St} {Q : Option Value → MM → Prop} (I : RefInv M S) (O : StOK S) (kk : ∀ M', RefInv M' (opWipe S).2 → Hi M M' → Q (some (.int (opWipe S).1)) M') : Ca 147 [.ref 83] M Q := by
  have hk : q_cd 147 = kd_X9_wipe := rfl
  show WP 147 0 [some (.ref 83), none] [] M Q
  repeat (first | refine wp_s hk rfl rfl ?_ | refine wp_goto hk rfl ?_ | refine wp_geti hk rfl rfl rfl rfl ?_ | refine wp_getr hk rfl rfl rfl rfl ?_)
  refine wp_th hk rfl (fun M0 F0 => ?_)
  have I0 := I.fr O F0
  have H0 := Hi.fr F0
  obtain ⟨⟨c1, c2, c3, c4, c5, c6⟩, ⟨b1, b2⟩, hr, d1, e1⟩ := I0
  repeat (first | refine wp_s hk rfl rfl ?_ | refine wp_goto hk rfl ?_ | refine wp_geti hk rfl rfl rfl rfl ?_ | refine wp_getr hk rfl rfl rfl rfl ?_)
  refine wp_put hk rfl rfl rfl rfl rfl ?_
  repeat (first | refine wp_s hk rfl rfl ?_ | refine wp_goto hk rfl ?_ | refine wp_geti hk rfl rfl rfl rfl ?_ | refine wp_getr hk rfl rfl rfl rfl ?_)
  rw [b1]
  refine wp_ir hk rfl rfl (kk _ ⟨⟨?_, ?_, fun j hj => ?_, fun j hj s hs => ?_, fun j hj => ?_, fun s hs => ?_⟩, ⟨?_, fun i hi => absurd hi (Nat.not_lt_zero _)⟩, ⟨fun r hr' => ?_, ?_, ?_⟩, ?_, fun i hi => ?_⟩ (H0.up (by decide)))
  · rw [q83]; exact c1
  · rw [q83]; exact c2
  · rw [q_up_ne _ _ (by decide)]; exact c3 j hj
  · rw [q_up_ne _ _ (by decide)]; exact c4 j hj s hs
  · rw [q_up_ne _ _ (by decide)]; exact c5 j hj
  · rw [q_up_ne _ _ (by decide)]; exact c6 s hs
  · rw [q83]; rfl
  · have := hr.1 r hr'
    unfold RefRu at this ⊢
    simp only [q_up_ne (j := 94) _ _ (show 94 ≠ 83 by decide), q_up_ne (j := 95) _ _ (show 95 ≠ 83 by decide), q_up_ne (j := 96) _ _ (show 96 ≠ 83 by decide), q_up_ne (j := 97) _ _ (show 97 ≠ 83 by decide)]
    exact this
  · rw [q_up_ne _ _ (by decide)]; exact hr.2.1
  · rw [q_up_ne _ _ (by decide)]; exact hr.2.2
  · rw [q83]; exact d1
  · have := e1 i hi
    unfold RefPast at this ⊢
    simp only [q_up_ne (j := 101) _ _ (show 101 ≠ 83 by decide), q_up_ne (j := 102) _ _ (show 102 ≠ 83 by decide), q_up_ne (j := 103) _ _ (show 103 ≠ 83 by decide), q_up_ne (j := 104) _ _ (show 104 ≠ 83 by decide), q_up_ne (j := 105) _ _ (show 105 ≠ 83 by decide), q_up_ne (j := 106) _ _ (show 106 ≠ 83 by decide)]
    exact this
def opForget (S : St) : Int32 × St := (nI (sN S), (sV S, sT S, sR S, 0, sP S))
theorem m_forget {M : MM} {S : St} {Q : Option Value → MM → Prop} (I : RefInv M S) (O : StOK S) (kk : ∀ M', RefInv M' (opForget S).2 → Hi M M' → Q (some (.int (opForget S).1)) M') : Ca 190 [.ref 83] M Q := by
  have hk : q_cd 190 = kd_X9_forget := rfl
  show WP 190 0 [some (.ref 83), none] [] M Q
  repeat (first | refine wp_s hk rfl rfl ?_ | refine wp_goto hk rfl ?_ | refine wp_geti hk rfl rfl rfl rfl ?_ | refine wp_getr hk rfl rfl rfl rfl ?_)
  refine wp_th hk rfl (fun M0 F0 => ?_)
  have I0 := I.fr O F0
  have H0 := Hi.fr F0
  obtain ⟨⟨c1, c2, c3, c4, c5, c6⟩, ⟨b1, b2⟩, hr, d1, e1⟩ := I0
  repeat (first | refine wp_s hk rfl rfl ?_ | refine wp_goto hk rfl ?_ | refine wp_geti hk rfl rfl rfl rfl ?_ | refine wp_getr hk rfl rfl rfl rfl ?_)
  refine wp_put hk rfl rfl rfl rfl rfl ?_
  repeat (first | refine wp_s hk rfl rfl ?_ | refine wp_goto hk rfl ?_ | refine wp_geti hk rfl rfl rfl rfl ?_ | refine wp_getr hk rfl rfl rfl rfl ?_)
  rw [d1]
  refine wp_ir hk rfl rfl (kk _ ⟨⟨?_, ?_, fun j hj => ?_, fun j hj s hs => ?_, fun j hj => ?_, fun s hs => ?_⟩, ⟨?_, fun i hi => ?_⟩, ⟨fun r hr' => ?_, ?_, ?_⟩, ?_, fun i hi => absurd hi (Nat.not_lt_zero _)⟩ (H0.up (by decide)))
  · rw [q83]; exact c1
  · rw [q83]; exact c2
  · rw [q_up_ne _ _ (by decide)]; exact c3 j hj
  · rw [q_up_ne _ _ (by decide)]; exact c4 j hj s hs
  · rw [q_up_ne _ _ (by decide)]; exact c5 j hj
  · rw [q_up_ne _ _ (by decide)]; exact c6 s hs
  · rw [q83]; exact b1
  · rw [q_up_ne _ _ (by decide)]; exact b2 i hi
  · have := hr.1 r hr'
    unfold RefRu at this ⊢
    simp only [q_up_ne (j := 94) _ _ (show 94 ≠ 83 by decide), q_up_ne (j := 95) _ _ (show 95 ≠ 83 by decide), q_up_ne (j := 96) _ _ (show 96 ≠ 83 by decide), q_up_ne (j := 97) _ _ (show 97 ≠ 83 by decide)]
    exact this
  · rw [q_up_ne _ _ (by decide)]; exact hr.2.1
  · rw [q_up_ne _ _ (by decide)]; exact hr.2.2
  · rw [q83]; rfl
