/-! what the law needs of states -/
theorem StOK.stV {S : St} {V : Vw} (O : StOK S) (h : VOK V) : StOK (stV S V) := ⟨h, O.2⟩
theorem ok_panel {S : St} {a b : Int32} (O : StOK S) : StOK (opPanel S a b).2 := by
  unfold opPanel
  by_cases h : (isR a 1 7 && isR b 1 4) = true
  · rw [if_pos h]
    rw [Bool.and_eq_true] at h
    obtain ⟨a1, a2, -⟩ := isR_of (by omega) (by omega) h.1
    obtain ⟨b1, b2, -⟩ := isR_of (by omega) (by omega) h.2
    exact O.stV ⟨a1, a2, b1, b2, by show 0 < 128; omega, fun _ _ _ _ => Nat.zero_le _, fun _ _ => Nat.zero_le _, fun _ _ => Nat.zero_le _⟩
  · rw [if_neg h]; exact O
theorem updN_le {f : Nat → Nat} {k x c n : Nat} (h : ∀ j, j < n → f j ≤ c) (hx : x ≤ c) : ∀ j, j < n → updN f k x j ≤ c := fun j hj => by
  unfold updN
  by_cases e : j = k
  · rw [if_pos e]; exact hx
  · rw [if_neg e]; exact h j hj
theorem ok_land {S : St} {z : Bool} {a b : Int32} (O : StOK S) : StOK (opLand S z a b).2 := by
  unfold opLand
  by_cases h : isN a (if z = true then vm (sV S) else vn (sV S)) = true
  · rw [if_pos h]
    by_cases g : isN b 4 = true
    · rw [if_pos g]
      obtain ⟨b1, -⟩ := i2n_of (by omega) g
      obtain ⟨o1, o2, o3, o4, o5, o6, o7, o8⟩ := O.1
      cases z with
      | true => exact O.stV ⟨o1, o2, o3, o4, o5, o6, o7, updN_le o8 (by omega)⟩
      | false => exact O.stV ⟨o1, o2, o3, o4, o5, o6, updN_le o7 (by omega), o8⟩
    · rw [if_neg g]; exact O
  · rw [if_neg h]; exact O
theorem ok_mark {S : St} {a b c : Int32} (O : StOK S) : StOK (opMark S a b c).2 := by
  unfold opMark
  by_cases h : (isN a (vn (sV S)) && isN b (vm (sV S))) = true
  · rw [if_pos h]
    by_cases g : isN c 6 = true
    · rw [if_pos g]
      obtain ⟨b1, -⟩ := i2n_of (by omega) g
      refine O.stV (O.1.setK (fun i hi t ht => ?_))
      have := O.1.2.2.2.2.2.1 i hi t ht
      unfold mkM
      split <;> omega
    · rw [if_neg g]; exact O
  · rw [if_neg h]; exact O
theorem ok_card {S : St} {a b : Int32} (O : StOK S) : StOK (opCard S a b).2 := by
  unfold opCard
  by_cases h : isN a (vn (sV S)) = true
  · rw [if_pos h]
    by_cases g : isN b (6 ^ vm (sV S)) = true
    · rw [if_pos g]
      refine O.stV (O.1.setK (fun i hi t ht => ?_))
      have := O.1.2.2.2.2.2.1 i hi t ht
      unfold mkG
      split
      · exact dig_le
      · exact this
    · rw [if_neg g]; exact O
  · rw [if_neg h]; exact O
theorem ok_lose {S : St} {a : Int32} {z : Bool} (O : StOK S) : StOK (opLose S a z).2 := by
  have h7 := O.1.2.1
  unfold opLose
  by_cases h : isN a (vn (sV S)) = true
  · rw [if_pos h]
    obtain ⟨a1, -⟩ := i2n_of (by omega) h
    exact O.stV (O.1.setL (stB_bit _ O.1.2.2.2.2.1 _ (by omega) z).1)
  · rw [if_neg h]; exact O
theorem ok_write {S : St} {a : Int32} {x : Int64} (O : StOK S) : StOK (opWrite S a x).2 := by
  obtain ⟨o1, ⟨o2, o3⟩, o4⟩ := O
  unfold opWrite
  by_cases h : isR a 1 8 = true
  · rw [if_pos h]
    by_cases g : (sT S).1 + i2n a ≤ 16
    · rw [if_pos g]
      refine ⟨o1, ⟨g, fun i hi => ?_⟩, o4⟩
      show wrT (sT S) (i2n a) x i < 256
      unfold wrT
      by_cases e : i < (sT S).1
      · rw [if_pos e]; exact o3 i e
      · rw [if_neg e]; exact byN_lt _ _
    · rw [if_neg g]; exact ⟨o1, ⟨o2, o3⟩, o4⟩
  · rw [if_neg h]; exact ⟨o1, ⟨o2, o3⟩, o4⟩
theorem ok_wipe {S : St} (O : StOK S) : StOK (opWipe S).2 := ⟨O.1, ⟨Nat.zero_le _, fun i hi => absurd hi (Nat.not_lt_zero _)⟩, O.2.2⟩
theorem ok_rule {S : St} {a : Int32} (O : StOK S) : StOK (opRule S a).2 := by
  unfold opRule
  by_cases h : isN a 3 = true
  · rw [if_pos h]
    by_cases g : (rdW (sT S) (vn (sV S)) 3 0).1 = none
    · rw [if_pos g]
      refine ⟨O.1, O.2.1, fun r hr => ?_, O.2.2.2⟩
      show RuOK (if r = i2n a then ruT (sT S) (vn (sV S)) else sR S r)
      by_cases e : r = i2n a
      · rw [if_pos e]; exact ruT_ok g
      · rw [if_neg e]; exact O.2.2.1 r hr
    · rw [if_neg g]; exact O
  · rw [if_neg h]; exact O
theorem ok_keep {S : St} (O : StOK S) : StOK (opKeep S).2 := by
  have h8 := O.2.2.2.1
  unfold opKeep
  by_cases h : sN S = 8
  · rw [if_pos h]; exact O
  · rw [if_neg h]
    refine ⟨O.1, O.2.1, O.2.2.1, by show sN S + 1 ≤ 8; omega, fun i hi => ?_⟩
    show VOK (if i = sN S then sV S else sP S i)
    have hi' : i < sN S + 1 := hi
    by_cases e : i = sN S
    · rw [if_pos e]; exact O.1
    · rw [if_neg e]; exact O.2.2.2.2 i (by omega)
theorem ok_forget {S : St} (O : StOK S) : StOK (opForget S).2 := ⟨O.1, O.2.1, O.2.2.1, Nat.zero_le _, fun i hi => absurd hi (Nat.not_lt_zero _)⟩
theorem ok_again {S : St} {a : Int32} (O : StOK S) : StOK (opAgain S a).2 := by
  have h8 := O.2.2.2.1
  unfold opAgain
  by_cases h : isN a (sN S) = true
  · rw [if_pos h]
    obtain ⟨a1, -⟩ := i2n_of (by omega) h
    exact O.stV (O.2.2.2.2 _ a1)
  · rw [if_neg h]; exact O
theorem ClsInv.hi {M M' : MM} {S : St} (I : ClsInv M S) (O : StOK S) (h : Hi M M') : ClsInv M' S := by
  obtain ⟨a, b, c, d, e⟩ := I
  have h8 := O.2.2.2.1
  have ck : ∀ {c : Nat} {V : Vw}, c + 3 < 83 → CardIs M c V → CardIs M' c V := fun {c V} hc H => by
    unfold CardIs
    rw [h c (by omega), h (c + 1) (by omega), h (c + 2) (by omega), h (c + 3) (by omega)]
    exact H
  refine ⟨ck (by omega) a, ⟨by rw [h 9 (by omega)]; exact b.1, fun i hi => by rw [h 10 (by omega)]; exact b.2 i hi⟩, fun r hr => ?_, by rw [h 35 (by omega)]; exact d, fun i hi => ck (by omega) (e i hi)⟩
  have := c r hr
  unfold SchIs at this ⊢
  rw [h _ (by omega), h (71 + 4 * r + 1) (by omega), h (71 + 4 * r + 2) (by omega), h (71 + 4 * r + 3) (by omega)]
  exact this
theorem RefInv.lo {M M' : MM} {S : St} (I : RefInv M S) (h : Lo M M') : RefInv M' S := by
  unfold RefInv RefCard RefRu RefPast at I ⊢
  rw [h 83 (by omega), h 84 (by omega), h 85 (by omega), h 86 (by omega), h 87 (by omega), h 90 (by omega), h 94 (by omega), h 95 (by omega), h 96 (by omega), h 97 (by omega), h 101 (by omega), h 102 (by omega), h 103 (by omega), h 104 (by omega), h 105 (by omega), h 106 (by omega)]
  exact I
/-- the state at the start -/
def stS : St := (vwP 5 3, (0, fun _ => 0), fun _ => ruS 0, 0, fun _ => vwP 5 3)
theorem ok_start : StOK stS := by
  have hv : VOK (vwP 5 3) := ⟨by decide, by decide, by decide, by decide, by decide, fun _ _ _ _ => Nat.zero_le _, fun _ _ => Nat.zero_le _, fun _ _ => Nat.zero_le _⟩
  exact ⟨hv, ⟨Nat.zero_le _, fun i hi => absurd hi (Nat.not_lt_zero _)⟩, fun _ _ => ruS_ok (by omega), Nat.zero_le _, fun _ _ => hv⟩
theorem q_iv0 {id j : Nat} (h : ¬ (id = 1 ∨ id = 83)) (h1 : ¬ (id = 12 ∨ id = 71 ∨ id = 75 ∨ id = 79)) (h2 : ¬ id = 94) : q_iv id j = nI 0 := by
  unfold q_iv
  rw [if_neg h, if_neg h1, if_neg h2]
  rfl
theorem cls_start {M : MM} (h : q_Init M) : ClsInv M stS := by
  refine ⟨⟨?_, ?_, ?_, fun j hj s hs => ?_, fun j hj => ?_, fun s hs => ?_⟩, ⟨?_, fun i hi => absurd hi (Nat.not_lt_zero _)⟩, fun r hr => ⟨?_, fun i hi => ?_, fun i hi _ => ?_, fun i hi h4 => ?_⟩, ?_, fun i hi => absurd hi (Nat.not_lt_zero _)⟩
  · rw [h 1 (by omega) 3 (by omega)]; decide
  · rw [h 1 (by omega) 4 (by omega)]; decide
  · rw [h 1 (by omega) 5 (by omega)]; decide
  · rw [h (1 + 1) (by omega) _ (by omega), q_iv0 (by omega) (by omega) (by omega)]; rfl
  · rw [h (1 + 2) (by omega) _ (by omega), q_iv0 (by omega) (by omega) (by omega)]; rfl
  · rw [h (1 + 3) (by omega) _ (by omega), q_iv0 (by omega) (by omega) (by omega)]; rfl
  · rw [h 9 (by omega) 1 (by omega)]; decide
  · rw [h _ (by omega) 3 (by omega)]
    have : r = 0 ∨ r = 1 ∨ r = 2 := by omega
    rcases this with rfl | rfl | rfl <;> decide
  · have hi' : i < 1 := hi
    rw [h _ (by omega) i (by omega), q_iv0 (by omega) (by omega) (by omega)]; rfl
  · have hi' : i < 1 := hi
    rw [h _ (by omega) i (by omega), q_iv0 (by omega) (by omega) (by omega)]; rfl
  · exact absurd h4 (by show ¬ (0 = 4); omega)
  · rw [h 35 (by omega) 1 (by omega)]; decide
theorem ref_start {M : MM} (h : q_Init M) : RefInv M stS := by
  refine ⟨⟨?_, ?_, fun j hj => ?_, fun j hj s hs => ?_, fun j hj => ?_, fun s hs => ?_⟩, ⟨?_, fun i hi => absurd hi (Nat.not_lt_zero _)⟩, ⟨fun r hr => ⟨?_, fun i hi => ?_, fun i hi _ => ?_, fun i hi h4 => ?_⟩, ?_, ?_⟩, ?_, fun i hi => absurd hi (Nat.not_lt_zero _)⟩
  · rw [h 83 (by omega) 1 (by omega)]; decide
  · rw [h 83 (by omega) 2 (by omega)]; decide
  · rw [h 87 (by omega) _ (by omega), q_iv0 (by omega) (by omega) (by omega)]
    show nI 0 = nI (b2n (Nat.testBit 0 j))
    rw [Nat.zero_testBit]
    rfl
  · rw [h 86 (by omega) _ (by omega), q_iv0 (by omega) (by omega) (by omega)]; rfl
  · rw [h 84 (by omega) _ (by omega), q_iv0 (by omega) (by omega) (by omega)]; rfl
  · rw [h 85 (by omega) _ (by omega), q_iv0 (by omega) (by omega) (by omega)]; rfl
  · rw [h 83 (by omega) 10 (by omega)]; decide
  · rw [h 94 (by omega) r (by omega)]
    have : r = 0 ∨ r = 1 ∨ r = 2 := by omega
    rcases this with rfl | rfl | rfl <;> decide
  · have hi' : i < 1 := hi
    rw [h 95 (by omega) _ (by omega), q_iv0 (by omega) (by omega) (by omega)]; rfl
  · have hi' : i < 1 := hi
    rw [h 96 (by omega) _ (by omega), q_iv0 (by omega) (by omega) (by omega)]; rfl
  · exact absurd h4 (by show ¬ (0 = 4); omega)
  · rw [h 94 (by omega) 3 (by omega)]; decide
  · rw [h 95 (by omega) 9 (by omega)]; decide
  · rw [h 83 (by omega) 22 (by omega)]; decide
