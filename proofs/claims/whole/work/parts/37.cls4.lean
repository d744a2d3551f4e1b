/-! the class's scales and rules -/
def SSh (g : Nat) : Prop := q_S[g]? = some (.inr (.inl (4, [some (some (g + 1))]))) ∧ q_S[g + 1]? = some (.inl (false, 7))
theorem SSh17 : SSh 17 := ⟨rfl, rfl⟩
theorem SSh21 : SSh 21 := ⟨rfl, rfl⟩
theorem SSh25 : SSh 25 := ⟨rfl, rfl⟩
def ZSh (z : Nat) : Prop := q_S[z]? = some (.inr (.inl (5, [some (some (z + 1)), some (some (z + 2)), some (some (z + 3)), none, none]))) ∧ q_S[z + 1]? = some (.inl (false, 3)) ∧ q_S[z + 2]? = some (.inl (false, 3)) ∧ q_S[z + 3]? = some (.inl (false, 21))
theorem ZSh12 : ZSh 12 := ⟨rfl, rfl, rfl, rfl⟩
theorem ZShR : ∀ r, r < 3 → ZSh (71 + 4 * r)
  | 0, _ => ⟨rfl, rfl, rfl, rfl⟩
  | 1, _ => ⟨rfl, rfl, rfl, rfl⟩
  | 2, _ => ⟨rfl, rfl, rfl, rfl⟩
  | n + 3, h => absurd h (by omega)
section SCALE
variable {M : MM} {c g z : Nat} {V : Vw} {R : Ru} {Q : Option Value → MM → Prop}
theorem c_points {a b : Nat} (ha : a < 2 ^ 30) (hb : b < 2 ^ 30) (kk : Q (some (.int (nI (pt a b)))) M) : Ca 49 [.int (nI a - nI b)] M Q := by
  have hk : q_cd 49 = kd_X8_pointsFor := rfl
  show WP 49 0 [some (.int (nI a - nI b))] [] M Q
  repeat (first | refine wp_s hk rfl rfl ?_ | refine wp_goto hk rfl ?_ | refine wp_geti hk rfl rfl rfl rfl ?_ | refine wp_getr hk rfl rfl rfl rfl ?_)
  refine wp_ifleD hk rfl rfl ha hb (fun h1 => ?_) (fun h1 => ?_)
  · repeat (first | refine wp_s hk rfl rfl ?_ | refine wp_goto hk rfl ?_ | refine wp_geti hk rfl rfl rfl rfl ?_ | refine wp_getr hk rfl rfl rfl rfl ?_)
    refine wp_ifneD hk rfl rfl ha hb (fun h2 => ?_) (fun h2 => ?_)
    · rw [show pt a b = 0 by unfold pt; rw [if_neg (by omega), if_neg h2]] at kk
      repeat (first | refine wp_s hk rfl rfl ?_ | refine wp_goto hk rfl ?_ | refine wp_geti hk rfl rfl rfl rfl ?_ | refine wp_getr hk rfl rfl rfl rfl ?_)
      exact wp_ir hk rfl rfl kk
    · rw [show pt a b = 1 by unfold pt; rw [if_neg (by omega), if_pos (Classical.not_not.mp h2)]] at kk
      repeat (first | refine wp_s hk rfl rfl ?_ | refine wp_goto hk rfl ?_ | refine wp_geti hk rfl rfl rfl rfl ?_ | refine wp_getr hk rfl rfl rfl rfl ?_)
      exact wp_ir hk rfl rfl kk
  · rw [show pt a b = 2 by unfold pt; rw [if_pos (by omega)]] at kk
    repeat (first | refine wp_s hk rfl rfl ?_ | refine wp_goto hk rfl ?_ | refine wp_geti hk rfl rfl rfl rfl ?_ | refine wp_getr hk rfl rfl rfl rfl ?_)
    exact wp_ir hk rfl rfl kk
theorem z_parts (hz : ZSh z) (H : SchIs M z R) (kk : Q (some (.int (nI R.1))) M) : Ca 47 [.ref z] M Q := by
  obtain ⟨hS, hA, hB, hC⟩ := hz
  have hk : q_cd 47 = kd_X5_parts := rfl
  show WP 47 0 [some (.ref z)] [] M Q
  repeat (first | refine wp_s hk rfl rfl ?_ | refine wp_goto hk rfl ?_ | refine wp_geti hk rfl rfl rfl rfl ?_ | refine wp_getr hk rfl rfl rfl rfl ?_ | refine wp_geti hk rfl hS rfl rfl ?_ | refine wp_getr hk rfl hS rfl rfl ?_)
  rw [H.1]
  exact wp_ir hk rfl rfl kk
theorem z_kindOf {i : Nat} (hz : ZSh z) (H : SchIs M z R) (O : RuOK R) (hi : i < R.1) (kk : Q (some (.int (nI (R.2.1 i)))) M) : Ca 48 [.ref z, .int (nI i)] M Q := by
  have h3 := O.2.1
  obtain ⟨hS, hA, hB, hC⟩ := hz
  have hk : q_cd 48 = kd_X5_kindOf := rfl
  show WP 48 0 [some (.ref z), some (.int (nI i))] [] M Q
  repeat (first | refine wp_s hk rfl rfl ?_ | refine wp_goto hk rfl ?_ | refine wp_geti hk rfl rfl rfl rfl ?_ | refine wp_getr hk rfl rfl rfl rfl ?_ | refine wp_geti hk rfl hS rfl rfl ?_ | refine wp_getr hk rfl hS rfl rfl ?_)
  refine wp_ald (jx := i) hk rfl hA rfl (by omega) ?_
  rw [H.2.1 i hi]
  exact wp_ir hk rfl rfl kk
theorem z_strikeOf {i : Nat} (hz : ZSh z) (H : SchIs M z R) (O : RuOK R) (hi : i < R.1) (h0 : R.2.1 i = 0) (kk : Q (some (.int (nI (R.2.2.1 i)))) M) : Ca 55 [.ref z, .int (nI i)] M Q := by
  have h3 := O.2.1
  obtain ⟨hS, hA, hB, hC⟩ := hz
  have hk : q_cd 55 = kd_X5_strikeOf := rfl
  show WP 55 0 [some (.ref z), some (.int (nI i))] [] M Q
  repeat (first | refine wp_s hk rfl rfl ?_ | refine wp_goto hk rfl ?_ | refine wp_geti hk rfl rfl rfl rfl ?_ | refine wp_getr hk rfl rfl rfl rfl ?_ | refine wp_geti hk rfl hS rfl rfl ?_ | refine wp_getr hk rfl hS rfl rfl ?_)
  refine wp_ald (jx := i) hk rfl hB rfl (by omega) ?_
  rw [H.2.2.1 i hi h0]
  exact wp_ir hk rfl rfl kk
theorem z_figureOf {i j : Nat} (hz : ZSh z) (H : SchIs M z R) (O : RuOK R) (hi : i < R.1) (h4 : R.2.1 i = 4) (hj : j < 7) (kk : Q (some (.int (nI (R.2.2.2 i j)))) M) : Ca 60 [.ref z, .int (nI i), .int (nI j)] M Q := by
  have h3 := O.2.1
  obtain ⟨hS, hA, hB, hC⟩ := hz
  have hk : q_cd 60 = kd_X5_figureOf := rfl
  show WP 60 0 [some (.ref z), some (.int (nI i)), some (.int (nI j))] [] M Q
  repeat (first | refine wp_s hk rfl rfl ?_ | refine wp_goto hk rfl ?_ | refine wp_geti hk rfl rfl rfl rfl ?_ | refine wp_getr hk rfl rfl rfl rfl ?_ | refine wp_geti hk rfl hS rfl rfl ?_ | refine wp_getr hk rfl hS rfl rfl ?_)
  refine wp_ald (jx := 7 * i + j) hk rfl hC (by simp only [q_nadd, q_nmul, Nat.mul_comm]) (by omega) ?_
  rw [H.2.2.2 i hi h4 j hj]
  exact wp_ir hk rfl rfl kk
theorem g_ranks {s : Nat} (hc : CSh c) (hg : SSh g) (H : CardIs M c V) (O : VOK V) (hs : s < vm V) (kk : Q (some (.int (nI (wRanks (vn V) (vm V) (vc V) (vk V) s)))) M) : Ca 50 [.ref g, .ref c, .int (nI s)] M Q := by
  have hc' := hc
  have hn7 := O.2.1
  have ho1 := O.2.2.1
  have hm4 := O.2.2.2.1
  have hL := O.2.2.2.2.1
  have hb := O.2.2.2.2.2.1
  obtain ⟨hS, hA, hB, hC⟩ := hc
  have hk : q_cd 50 = kd_X4_ranks := rfl
  show WP 50 0 [some (.ref g), some (.ref c), some (.int (nI s)), none, none, none] [] M Q
  have outer := q_dn (n := vn V) (P := fun j => ∀ x5, WP 50 4 [some (.ref g), some (.ref c), some (.int (nI s)), some (.int (nI (sumN (fun j => if vc V j then sumN (fun o => if o = s then 0 else pt (vk V j s) (vk V j o)) (vm V) else 0) j))), some (.int (nI j)), x5] [] M Q) (by
    intro x5
    repeat (first | refine wp_s hk rfl rfl ?_ | refine wp_goto hk rfl ?_ | refine wp_geti hk rfl rfl rfl rfl ?_ | refine wp_getr hk rfl rfl rfl rfl ?_)
    refine wp_callV hk rfl rfl rfl rfl hS rfl ?_
    refine c_judges hc' H ?_
    refine wp_icgeN (u := vn V) (v := vn V) hk rfl rfl rfl (by omega) (by omega) (fun _ => ?_) (fun h => absurd h (by omega))
    repeat (first | refine wp_s hk rfl rfl ?_ | refine wp_goto hk rfl ?_ | refine wp_geti hk rfl rfl rfl rfl ?_ | refine wp_getr hk rfl rfl rfl rfl ?_)
    exact wp_ir hk rfl rfl kk) (by
    intro j hj ih x5
    repeat (first | refine wp_s hk rfl rfl ?_ | refine wp_goto hk rfl ?_ | refine wp_geti hk rfl rfl rfl rfl ?_ | refine wp_getr hk rfl rfl rfl rfl ?_)
    refine wp_callV hk rfl rfl rfl rfl hS rfl ?_
    refine c_judges hc' H ?_
    refine wp_icgeN (u := j) (v := vn V) hk rfl rfl rfl (by omega) (by omega) (fun h => absurd h (by omega)) (fun _ => ?_)
    rw [show sumN (fun j => if vc V j then sumN (fun o => if o = s then 0 else pt (vk V j s) (vk V j o)) (vm V) else 0) (j + 1) = sumN (fun j => if vc V j then sumN (fun o => if o = s then 0 else pt (vk V j s) (vk V j o)) (vm V) else 0) j + (if vc V j then sumN (fun o => if o = s then 0 else pt (vk V j s) (vk V j o)) (vm V) else 0) from rfl] at ih
    generalize (sumN (fun j => if vc V j then sumN (fun o => if o = s then 0 else pt (vk V j s) (vk V j o)) (vm V) else 0) j) = A at ih ⊢
    cases hcj : vc V j with
    | false =>
      rw [if_neg (by rw [hcj]; exact Bool.false_ne_true), Nat.add_zero] at ih
      repeat (first | refine wp_s hk rfl rfl ?_ | refine wp_goto hk rfl ?_ | refine wp_geti hk rfl rfl rfl rfl ?_ | refine wp_getr hk rfl rfl rfl rfl ?_)
      refine wp_callV hk rfl rfl rfl rfl hS rfl ?_
      refine c_skaters hc' H ?_
      refine wp_icgeN (u := 0) (v := vm V) hk rfl rfl rfl (by omega) (by omega) (fun h => absurd h (by omega)) (fun _ => ?_)
      repeat (first | refine wp_s hk rfl rfl ?_ | refine wp_goto hk rfl ?_ | refine wp_geti hk rfl rfl rfl rfl ?_ | refine wp_getr hk rfl rfl rfl rfl ?_)
      refine wp_callV hk rfl rfl rfl rfl hS rfl ?_
      refine c_counts hc' H hL hn7 (by omega) ?_
      refine wp_ifeqB hk rfl rfl (fun _ => ?_) (fun z => by rw [hcj] at z; cases z)
      refine wp_s hk rfl rfl ?_
      refine wp_goto hk rfl ?_
      rw [q_nadd j 1]
      exact ih _
    | true =>
      rw [if_pos hcj] at ih
      have inner := q_dn (n := vm V) (P := fun o => WP 50 10 [some (.ref g), some (.ref c), some (.int (nI s)), some (.int (nI (A + sumN (fun o => if o = s then 0 else pt (vk V j s) (vk V j o)) o))), some (.int (nI j)), some (.int (nI o))] [] M Q) (by
        repeat (first | refine wp_s hk rfl rfl ?_ | refine wp_goto hk rfl ?_ | refine wp_geti hk rfl rfl rfl rfl ?_ | refine wp_getr hk rfl rfl rfl rfl ?_)
        refine wp_callV hk rfl rfl rfl rfl hS rfl ?_
        refine c_skaters hc' H ?_
        refine wp_icgeN (u := vm V) (v := vm V) hk rfl rfl rfl (by omega) (by omega) (fun _ => ?_) (fun h => absurd h (by omega))
        refine wp_s hk rfl rfl ?_
        refine wp_goto hk rfl ?_
        rw [q_nadd j 1]
        exact ih _) (by
        intro o ho iho
        rw [show sumN (fun o => if o = s then 0 else pt (vk V j s) (vk V j o)) (o + 1) = sumN (fun o => if o = s then 0 else pt (vk V j s) (vk V j o)) o + (if o = s then 0 else pt (vk V j s) (vk V j o)) from rfl, ← Nat.add_assoc] at iho
        repeat (first | refine wp_s hk rfl rfl ?_ | refine wp_goto hk rfl ?_ | refine wp_geti hk rfl rfl rfl rfl ?_ | refine wp_getr hk rfl rfl rfl rfl ?_)
        refine wp_callV hk rfl rfl rfl rfl hS rfl ?_
        refine c_skaters hc' H ?_
        refine wp_icgeN (u := o) (v := vm V) hk rfl rfl rfl (by omega) (by omega) (fun h => absurd h (by omega)) (fun _ => ?_)
        repeat (first | refine wp_s hk rfl rfl ?_ | refine wp_goto hk rfl ?_ | refine wp_geti hk rfl rfl rfl rfl ?_ | refine wp_getr hk rfl rfl rfl rfl ?_)
        refine wp_callV hk rfl rfl rfl rfl hS rfl ?_
        refine c_counts hc' H hL hn7 (by omega) ?_
        refine wp_ifeqB hk rfl rfl (fun z => by rw [hcj] at z; cases z) (fun _ => ?_)
        repeat (first | refine wp_s hk rfl rfl ?_ | refine wp_goto hk rfl ?_ | refine wp_geti hk rfl rfl rfl rfl ?_ | refine wp_getr hk rfl rfl rfl rfl ?_)
        refine wp_iceqN (u := o) (v := s) hk rfl rfl rfl (by omega) (by omega) (fun e => ?_) (fun e => ?_)
        · rw [if_pos e, Nat.add_zero] at iho
          refine wp_s hk rfl rfl ?_
          refine wp_goto hk rfl ?_
          rw [q_nadd o 1]
          exact iho
        · rw [if_neg e] at iho
          have b1 := hb j (by omega) s (by omega)
          have b2 := hb j (by omega) o (by omega)
          repeat (first | refine wp_s hk rfl rfl ?_ | refine wp_goto hk rfl ?_ | refine wp_geti hk rfl rfl rfl rfl ?_ | refine wp_getr hk rfl rfl rfl rfl ?_)
          refine wp_callV hk rfl rfl rfl rfl hS rfl ?_
          refine c_markOf hc' H (by omega) (by omega) ?_
          repeat (first | refine wp_s hk rfl rfl ?_ | refine wp_goto hk rfl ?_ | refine wp_geti hk rfl rfl rfl rfl ?_ | refine wp_getr hk rfl rfl rfl rfl ?_)
          refine wp_callV hk rfl rfl rfl rfl hS rfl ?_
          refine c_markOf hc' H (by omega) (by omega) ?_
          repeat (first | refine wp_s hk rfl rfl ?_ | refine wp_goto hk rfl ?_ | refine wp_geti hk rfl rfl rfl rfl ?_ | refine wp_getr hk rfl rfl rfl rfl ?_)
          refine wp_callS hk rfl rfl rfl rfl ?_
          refine c_points (by omega) (by omega) ?_
          refine wp_s hk rfl rfl ?_
          refine wp_s hk rfl rfl ?_
          refine wp_s hk rfl rfl ?_
          refine wp_goto hk rfl ?_
          rw [q_nadd o 1, q_nadd]
          exact iho)
      refine wp_s hk rfl rfl ?_
      refine wp_s hk rfl rfl ?_
      exact inner 0 (Nat.zero_le _))
  refine wp_s hk rfl rfl ?_
  refine wp_s hk rfl rfl ?_
  refine wp_s hk rfl rfl ?_
  refine wp_s hk rfl rfl ?_
  exact outer 0 (Nat.zero_le _) _
theorem pt_sg (a b : Nat) : nI (pt a b) - nI 1 = nI (if b < a then 1 else 0) - nI (if a < b then 1 else 0) := by
  unfold pt
  by_cases h1 : b < a
  · rw [if_pos h1, if_pos h1, if_neg (by omega)]; decide
  · rw [if_neg h1, if_neg h1]
    by_cases h2 : a = b
    · rw [if_pos h2, if_neg (by omega)]; decide
    · rw [if_neg h2, if_pos (by omega)]
theorem g_leadOf {a b : Nat} (hc : CSh c) (hg : SSh g) (H : CardIs M c V) (O : VOK V) (ha : a < 4) (hb4 : b < 4) (kk : Q (some (.int (nI (wMore (vn V) (vc V) (vk V) a b) - nI (wMore (vn V) (vc V) (vk V) b a)))) M) : Ca 52 [.ref g, .ref c, .int (nI a), .int (nI b)] M Q := by
  have hc' := hc
  have hn7 := O.2.1
  have hL := O.2.2.2.2.1
  have hb := O.2.2.2.2.2.1
  obtain ⟨hS, hA, hB, hC⟩ := hc
  have hk : q_cd 52 = kd_X4_leadOf := rfl
  show WP 52 0 [some (.ref g), some (.ref c), some (.int (nI a)), some (.int (nI b)), none, none] [] M Q
  have loop := q_dn (n := vn V) (P := fun j => WP 52 4 [some (.ref g), some (.ref c), some (.int (nI a)), some (.int (nI b)), some (.int (nI (wMore j (vc V) (vk V) a b) - nI (wMore j (vc V) (vk V) b a))), some (.int (nI j))] [] M Q) (by
    repeat (first | refine wp_s hk rfl rfl ?_ | refine wp_goto hk rfl ?_ | refine wp_geti hk rfl rfl rfl rfl ?_ | refine wp_getr hk rfl rfl rfl rfl ?_)
    refine wp_callV hk rfl rfl rfl rfl hS rfl ?_
    refine c_judges hc' H ?_
    refine wp_icgeN (u := vn V) (v := vn V) hk rfl rfl rfl (by omega) (by omega) (fun _ => ?_) (fun h => absurd h (by omega))
    repeat (first | refine wp_s hk rfl rfl ?_ | refine wp_goto hk rfl ?_ | refine wp_geti hk rfl rfl rfl rfl ?_ | refine wp_getr hk rfl rfl rfl rfl ?_)
    exact wp_ir hk rfl rfl kk) (by
    intro j hj ih
    have e1 : wMore (j + 1) (vc V) (vk V) a b = wMore j (vc V) (vk V) a b + (if vc V j = true ∧ vk V j b < vk V j a then 1 else 0) := rfl
    have e2 : wMore (j + 1) (vc V) (vk V) b a = wMore j (vc V) (vk V) b a + (if vc V j = true ∧ vk V j a < vk V j b then 1 else 0) := rfl
    rw [e1, e2] at ih
    repeat (first | refine wp_s hk rfl rfl ?_ | refine wp_goto hk rfl ?_ | refine wp_geti hk rfl rfl rfl rfl ?_ | refine wp_getr hk rfl rfl rfl rfl ?_)
    refine wp_callV hk rfl rfl rfl rfl hS rfl ?_
    refine c_judges hc' H ?_
    refine wp_icgeN (u := j) (v := vn V) hk rfl rfl rfl (by omega) (by omega) (fun h => absurd h (by omega)) (fun _ => ?_)
    repeat (first | refine wp_s hk rfl rfl ?_ | refine wp_goto hk rfl ?_ | refine wp_geti hk rfl rfl rfl rfl ?_ | refine wp_getr hk rfl rfl rfl rfl ?_)
    refine wp_callV hk rfl rfl rfl rfl hS rfl ?_
    refine c_counts hc' H hL hn7 (by omega) ?_
    refine wp_ifeqB hk rfl rfl (fun z => ?_) (fun z => ?_)
    · rw [if_neg (by rw [z]; simp), if_neg (by rw [z]; simp), Nat.add_zero, Nat.add_zero] at ih
      refine wp_s hk rfl rfl ?_
      refine wp_goto hk rfl ?_
      rw [q_nadd j 1]
      exact ih
    · have b1 := hb j (by omega) a ha
      have b2 := hb j (by omega) b hb4
      have p1 : (if vc V j = true ∧ vk V j b < vk V j a then 1 else 0) = if vk V j b < vk V j a then 1 else 0 := by rw [z]; simp
      have p2 : (if vc V j = true ∧ vk V j a < vk V j b then 1 else 0) = if vk V j a < vk V j b then 1 else 0 := by rw [z]; simp
      rw [p1, p2] at ih
      repeat (first | refine wp_s hk rfl rfl ?_ | refine wp_goto hk rfl ?_ | refine wp_geti hk rfl rfl rfl rfl ?_ | refine wp_getr hk rfl rfl rfl rfl ?_)
      refine wp_callV hk rfl rfl rfl rfl hS rfl ?_
      refine c_markOf hc' H (by omega) ha ?_
      repeat (first | refine wp_s hk rfl rfl ?_ | refine wp_goto hk rfl ?_ | refine wp_geti hk rfl rfl rfl rfl ?_ | refine wp_getr hk rfl rfl rfl rfl ?_)
      refine wp_callV hk rfl rfl rfl rfl hS rfl ?_
      refine c_markOf hc' H (by omega) hb4 ?_
      repeat (first | refine wp_s hk rfl rfl ?_ | refine wp_goto hk rfl ?_ | refine wp_geti hk rfl rfl rfl rfl ?_ | refine wp_getr hk rfl rfl rfl rfl ?_)
      refine wp_callS hk rfl rfl rfl rfl ?_
      refine c_points (by omega) (by omega) ?_
      refine wp_s hk rfl rfl ?_
      refine wp_s hk rfl rfl ?_
      refine wp_s hk rfl rfl ?_
      refine wp_s hk rfl rfl ?_
      refine wp_s hk rfl rfl ?_
      refine wp_goto hk rfl ?_
      rw [q_nadd j 1, pt_sg]
      have e3 : ∀ p q x y : Nat, nI p - nI q + (nI x - nI y) = nI (p + x) - nI (q + y) := fun p q x y => by
        rw [← q_nadd, ← q_nadd]; grind
      rw [e3]
      exact ih)
  refine wp_s hk rfl rfl ?_
  refine wp_s hk rfl rfl ?_
  refine wp_s hk rfl rfl ?_
  refine wp_s hk rfl rfl ?_
  have h0 := loop 0 (Nat.zero_le _)
  rw [show nI (wMore 0 (vc V) (vk V) a b) - nI (wMore 0 (vc V) (vk V) b a) = nI 0 by show nI 0 - nI 0 = nI 0; decide] at h0
  exact h0
theorem g_pairs {s : Nat} (hc : CSh c) (hg : SSh g) (H : CardIs M c V) (O : VOK V) (hs : s < vm V) (kk : Q (some (.int (nI (wPairs (vn V) (vm V) (vc V) (vk V) s)))) M) : Ca 59 [.ref g, .ref c, .int (nI s)] M Q := by
  have hc' := hc
  have hg' := hg
  have hn7 := O.2.1
  have hm4 := O.2.2.2.1
  obtain ⟨hS, hA, hB, hC⟩ := hc
  obtain ⟨gS, gA⟩ := hg
  have hk : q_cd 59 = kd_X4_pairs := rfl
  show WP 59 0 [some (.ref g), some (.ref c), some (.int (nI s)), none, none] [] M Q
  have loop := q_dn (n := vm V) (P := fun o => WP 59 4 [some (.ref g), some (.ref c), some (.int (nI s)), some (.int (nI (sumN (fun o => if o = s then 0 else pt (wMore (vn V) (vc V) (vk V) s o) (wMore (vn V) (vc V) (vk V) o s)) o))), some (.int (nI o))] [] M Q) (by
    repeat (first | refine wp_s hk rfl rfl ?_ | refine wp_goto hk rfl ?_ | refine wp_geti hk rfl rfl rfl rfl ?_ | refine wp_getr hk rfl rfl rfl rfl ?_)
    refine wp_callV hk rfl rfl rfl rfl hS rfl ?_
    refine c_skaters hc' H ?_
    refine wp_icgeN (u := vm V) (v := vm V) hk rfl rfl rfl (by omega) (by omega) (fun _ => ?_) (fun h => absurd h (by omega))
    repeat (first | refine wp_s hk rfl rfl ?_ | refine wp_goto hk rfl ?_ | refine wp_geti hk rfl rfl rfl rfl ?_ | refine wp_getr hk rfl rfl rfl rfl ?_)
    exact wp_ir hk rfl rfl kk) (by
    intro o ho ih
    rw [show sumN (fun o => if o = s then 0 else pt (wMore (vn V) (vc V) (vk V) s o) (wMore (vn V) (vc V) (vk V) o s)) (o + 1) = sumN (fun o => if o = s then 0 else pt (wMore (vn V) (vc V) (vk V) s o) (wMore (vn V) (vc V) (vk V) o s)) o + (if o = s then 0 else pt (wMore (vn V) (vc V) (vk V) s o) (wMore (vn V) (vc V) (vk V) o s)) from rfl] at ih
    repeat (first | refine wp_s hk rfl rfl ?_ | refine wp_goto hk rfl ?_ | refine wp_geti hk rfl rfl rfl rfl ?_ | refine wp_getr hk rfl rfl rfl rfl ?_)
    refine wp_callV hk rfl rfl rfl rfl hS rfl ?_
    refine c_skaters hc' H ?_
    refine wp_icgeN (u := o) (v := vm V) hk rfl rfl rfl (by omega) (by omega) (fun h => absurd h (by omega)) (fun _ => ?_)
    repeat (first | refine wp_s hk rfl rfl ?_ | refine wp_goto hk rfl ?_ | refine wp_geti hk rfl rfl rfl rfl ?_ | refine wp_getr hk rfl rfl rfl rfl ?_)
    refine wp_iceqN (u := o) (v := s) hk rfl rfl rfl (by omega) (by omega) (fun e => ?_) (fun e => ?_)
    · rw [if_pos e, Nat.add_zero] at ih
      refine wp_s hk rfl rfl ?_
      refine wp_goto hk rfl ?_
      rw [q_nadd o 1]
      exact ih
    · rw [if_neg e] at ih
      have l1 : wMore (vn V) (vc V) (vk V) s o ≤ vn V * 1 := sumN_le (fun j hj => by split <;> omega)
      have l2 : wMore (vn V) (vc V) (vk V) o s ≤ vn V * 1 := sumN_le (fun j hj => by split <;> omega)
      repeat (first | refine wp_s hk rfl rfl ?_ | refine wp_goto hk rfl ?_ | refine wp_geti hk rfl rfl rfl rfl ?_ | refine wp_getr hk rfl rfl rfl rfl ?_)
      refine wp_callV hk rfl rfl rfl rfl gS rfl ?_
      refine g_leadOf hc' hg' H O (by omega) (by omega) ?_
      refine wp_callS hk rfl rfl rfl rfl ?_
      refine c_points (by omega) (by omega) ?_
      refine wp_s hk rfl rfl ?_
      refine wp_s hk rfl rfl ?_
      refine wp_s hk rfl rfl ?_
      refine wp_goto hk rfl ?_
      rw [q_nadd o 1, q_nadd]
      exact ih)
  refine wp_s hk rfl rfl ?_
  refine wp_s hk rfl rfl ?_
  refine wp_s hk rfl rfl ?_
  refine wp_s hk rfl rfl ?_
  exact loop 0 (Nat.zero_le _)
theorem g_weighted {i s : Nat} (hc : CSh c) (hg : SSh g) (hz : ZSh z) (H : CardIs M c V) (O : VOK V) (HZ : SchIs M z R) (OZ : RuOK R) (hi : i < R.1) (h4 : R.2.1 i = 4) (hs : s < 4) (kk : Q (some (.int (nI (wWei (vn V) (vc V) (vk V) (R.2.2.2 i) s)))) M) : Ca 61 [.ref g, .ref z, .int (nI i), .ref c, .int (nI s)] M Q := by
  have hc' := hc
  have hz' := hz
  have hn7 := O.2.1
  have hL := O.2.2.2.2.1
  obtain ⟨hS, hA, hB, hC⟩ := hc
  obtain ⟨zS, zA, zB, zC⟩ := hz
  have hk : q_cd 61 = kd_X4_weighted := rfl
  show WP 61 0 [some (.ref g), some (.ref z), some (.int (nI i)), some (.ref c), some (.int (nI s)), none, none] [] M Q
  have loop := q_dn (n := vn V) (P := fun j => WP 61 4 [some (.ref g), some (.ref z), some (.int (nI i)), some (.ref c), some (.int (nI s)), some (.int (nI (wWei j (vc V) (vk V) (R.2.2.2 i) s))), some (.int (nI j))] [] M Q) (by
    repeat (first | refine wp_s hk rfl rfl ?_ | refine wp_goto hk rfl ?_ | refine wp_geti hk rfl rfl rfl rfl ?_ | refine wp_getr hk rfl rfl rfl rfl ?_)
    refine wp_callV hk rfl rfl rfl rfl hS rfl ?_
    refine c_judges hc' H ?_
    refine wp_icgeN (u := vn V) (v := vn V) hk rfl rfl rfl (by omega) (by omega) (fun _ => ?_) (fun h => absurd h (by omega))
    repeat (first | refine wp_s hk rfl rfl ?_ | refine wp_goto hk rfl ?_ | refine wp_geti hk rfl rfl rfl rfl ?_ | refine wp_getr hk rfl rfl rfl rfl ?_)
    exact wp_ir hk rfl rfl kk) (by
    intro j hj ih
    have e1 : wWei (j + 1) (vc V) (vk V) (R.2.2.2 i) s = wWei j (vc V) (vk V) (R.2.2.2 i) s + (if vc V j = true then vk V j s * R.2.2.2 i j else 0) := rfl
    rw [e1] at ih
    repeat (first | refine wp_s hk rfl rfl ?_ | refine wp_goto hk rfl ?_ | refine wp_geti hk rfl rfl rfl rfl ?_ | refine wp_getr hk rfl rfl rfl rfl ?_)
    refine wp_callV hk rfl rfl rfl rfl hS rfl ?_
    refine c_judges hc' H ?_
    refine wp_icgeN (u := j) (v := vn V) hk rfl rfl rfl (by omega) (by omega) (fun h => absurd h (by omega)) (fun _ => ?_)
    repeat (first | refine wp_s hk rfl rfl ?_ | refine wp_goto hk rfl ?_ | refine wp_geti hk rfl rfl rfl rfl ?_ | refine wp_getr hk rfl rfl rfl rfl ?_)
    refine wp_callV hk rfl rfl rfl rfl hS rfl ?_
    refine c_counts hc' H hL hn7 (by omega) ?_
    refine wp_ifeqB hk rfl rfl (fun y => ?_) (fun y => ?_)
    · rw [if_neg (by rw [y]; exact Bool.false_ne_true), Nat.add_zero] at ih
      refine wp_s hk rfl rfl ?_
      refine wp_goto hk rfl ?_
      rw [q_nadd j 1]
      exact ih
    · rw [if_pos y] at ih
      repeat (first | refine wp_s hk rfl rfl ?_ | refine wp_goto hk rfl ?_ | refine wp_geti hk rfl rfl rfl rfl ?_ | refine wp_getr hk rfl rfl rfl rfl ?_)
      refine wp_callV hk rfl rfl rfl rfl hS rfl ?_
      refine c_markOf hc' H (by omega) hs ?_
      repeat (first | refine wp_s hk rfl rfl ?_ | refine wp_goto hk rfl ?_ | refine wp_geti hk rfl rfl rfl rfl ?_ | refine wp_getr hk rfl rfl rfl rfl ?_)
      refine wp_callV hk rfl rfl rfl rfl zS rfl ?_
      refine z_figureOf hz' HZ OZ hi h4 (by omega) ?_
      refine wp_s hk rfl rfl ?_
      refine wp_s hk rfl rfl ?_
      refine wp_s hk rfl rfl ?_
      refine wp_s hk rfl rfl ?_
      refine wp_goto hk rfl ?_
      rw [q_nmul, q_nadd j 1, q_nadd]
      exact ih)
  refine wp_s hk rfl rfl ?_
  refine wp_s hk rfl rfl ?_
  refine wp_s hk rfl rfl ?_
  refine wp_s hk rfl rfl ?_
  exact loop 0 (Nat.zero_le _)
end SCALE
