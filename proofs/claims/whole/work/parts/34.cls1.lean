/-! the class's cards, wherever they lie -/
def CSh (c : Nat) : Prop := q_S[c]? = some (.inr (.inl (0, [some (some (c + 1)), some (some (c + 2)), some (some (c + 3)), none, none, none]))) ∧ q_S[c + 1]? = some (.inl (false, 28)) ∧ q_S[c + 2]? = some (.inl (false, 7)) ∧ q_S[c + 3]? = some (.inl (false, 4))
theorem CSh1 : CSh 1 := ⟨rfl, rfl, rfl, rfl⟩
theorem CSh5 : CSh 5 := ⟨rfl, rfl, rfl, rfl⟩
theorem CSh27 : CSh 27 := ⟨rfl, rfl, rfl, rfl⟩
theorem CShP : ∀ i, i < 8 → CSh (37 + 4 * i)
  | 0, _ => ⟨rfl, rfl, rfl, rfl⟩
  | 1, _ => ⟨rfl, rfl, rfl, rfl⟩
  | 2, _ => ⟨rfl, rfl, rfl, rfl⟩
  | 3, _ => ⟨rfl, rfl, rfl, rfl⟩
  | 4, _ => ⟨rfl, rfl, rfl, rfl⟩
  | 5, _ => ⟨rfl, rfl, rfl, rfl⟩
  | 6, _ => ⟨rfl, rfl, rfl, rfl⟩
  | 7, _ => ⟨rfl, rfl, rfl, rfl⟩
  | n + 8, h => absurd h (by omega)
section CARD
variable {M : MM} {c : Nat} {V : Vw} {Q : Option Value → MM → Prop}
theorem c_judges (hc : CSh c) (H : CardIs M c V) (kk : Q (some (.int (nI (vn V)))) M) : Ca 3 [.ref c] M Q := by
  obtain ⟨hS, hA, hB, hC⟩ := hc
  have hk : q_cd 3 = kd_X0_judges := rfl
  show WP 3 0 [some (.ref c)] [] M Q
  repeat (first | refine wp_s hk rfl rfl ?_ | refine wp_goto hk rfl ?_ | refine wp_geti hk rfl rfl rfl rfl ?_ | refine wp_getr hk rfl rfl rfl rfl ?_ | refine wp_geti hk rfl hS rfl rfl ?_ | refine wp_getr hk rfl hS rfl rfl ?_)
  rw [H.1]
  exact wp_ir hk rfl rfl kk
theorem c_skaters (hc : CSh c) (H : CardIs M c V) (kk : Q (some (.int (nI (vm V)))) M) : Ca 4 [.ref c] M Q := by
  obtain ⟨hS, hA, hB, hC⟩ := hc
  have hk : q_cd 4 = kd_X0_skaters := rfl
  show WP 4 0 [some (.ref c)] [] M Q
  repeat (first | refine wp_s hk rfl rfl ?_ | refine wp_goto hk rfl ?_ | refine wp_geti hk rfl rfl rfl rfl ?_ | refine wp_getr hk rfl rfl rfl rfl ?_ | refine wp_geti hk rfl hS rfl rfl ?_ | refine wp_getr hk rfl hS rfl rfl ?_)
  rw [H.2.1]
  exact wp_ir hk rfl rfl kk
theorem c_size (hc : CSh c) (H : CardIs M c V) (kk : Q (some (.int (nI (vn V * vm V)))) M) : Ca 5 [.ref c] M Q := by
  obtain ⟨hS, hA, hB, hC⟩ := hc
  have hk : q_cd 5 = kd_X0_size := rfl
  show WP 5 0 [some (.ref c)] [] M Q
  repeat (first | refine wp_s hk rfl rfl ?_ | refine wp_goto hk rfl ?_ | refine wp_geti hk rfl rfl rfl rfl ?_ | refine wp_getr hk rfl rfl rfl rfl ?_ | refine wp_geti hk rfl hS rfl rfl ?_ | refine wp_getr hk rfl hS rfl rfl ?_)
  rw [H.1, H.2.1, q_nmul]
  exact wp_ir hk rfl rfl kk
theorem c_judgeSets (hc : CSh c) (H : CardIs M c V) (h7 : vn V ≤ 7) (kk : Q (some (.int (nI (2 ^ vn V)))) M) : Ca 6 [.ref c] M Q := by
  obtain ⟨hS, hA, hB, hC⟩ := hc
  have hk : q_cd 6 = kd_X0_judgeSets := rfl
  show WP 6 0 [some (.ref c)] [] M Q
  repeat (first | refine wp_s hk rfl rfl ?_ | refine wp_goto hk rfl ?_ | refine wp_geti hk rfl rfl rfl rfl ?_ | refine wp_getr hk rfl rfl rfl rfl ?_ | refine wp_geti hk rfl hS rfl rfl ?_ | refine wp_getr hk rfl hS rfl rfl ?_)
  rw [H.1, q_shl1 _ (by omega)]
  exact wp_ir hk rfl rfl kk
theorem c_rows (hc : CSh c) (H : CardIs M c V) (h4 : vm V ≤ 4) (kk : Q (some (.int (nI (6 ^ vm V)))) M) : Ca 7 [.ref c] M Q := by
  obtain ⟨hS, hA, hB, hC⟩ := hc
  have hk : q_cd 7 = kd_X0_rows := rfl
  show WP 7 0 [some (.ref c), none, none] [] M Q
  have loop := q_dn (n := vm V) (P := fun j => WP 7 7 [some (.ref c), some (.int (nI (6 ^ j))), some (.int (nI j))] [.int (M c 4), .int (nI j)] M Q) (by
    refine wp_icgeN (u := vm V) (v := vm V) hk rfl rfl H.2.1 (by omega) (by omega) (fun _ => ?_) (fun h => absurd h (by omega))
    repeat (first | refine wp_s hk rfl rfl ?_ | refine wp_goto hk rfl ?_ | refine wp_geti hk rfl rfl rfl rfl ?_ | refine wp_getr hk rfl rfl rfl rfl ?_ | refine wp_geti hk rfl hS rfl rfl ?_ | refine wp_getr hk rfl hS rfl rfl ?_)
    exact wp_ir hk rfl rfl kk) (by
    intro j hj ih
    refine wp_icgeN (u := j) (v := vm V) hk rfl rfl H.2.1 (by omega) (by omega) (fun h => absurd h (by omega)) (fun _ => ?_)
    repeat (first | refine wp_s hk rfl rfl ?_ | refine wp_goto hk rfl ?_ | refine wp_geti hk rfl rfl rfl rfl ?_ | refine wp_getr hk rfl rfl rfl rfl ?_ | refine wp_geti hk rfl hS rfl rfl ?_ | refine wp_getr hk rfl hS rfl rfl ?_)
    rw [q_nadd j 1, q_nmul, ← Nat.pow_succ]
    exact ih)
  repeat (first | refine wp_s hk rfl rfl ?_ | refine wp_goto hk rfl ?_ | refine wp_geti hk rfl rfl rfl rfl ?_ | refine wp_getr hk rfl rfl rfl rfl ?_ | refine wp_geti hk rfl hS rfl rfl ?_ | refine wp_getr hk rfl hS rfl rfl ?_)
  exact loop 0 (Nat.zero_le _)
theorem isN_lo {x : Int32} {n : Nat} (h : x < 0) : isN x n = false := by
  unfold isN
  rw [decide_eq_false (Int32.not_le.mpr h), Bool.false_and]
theorem isN_hi {x : Int32} {n : Nat} (h : nI n ≤ x) : isN x n = false := by
  unfold isN
  rw [decide_eq_false (p := x < nI n) (Int32.not_lt.mpr h), Bool.and_false]
theorem isN_in {x : Int32} {n : Nat} (h0 : ¬ x < 0) (h : ¬ nI n ≤ x) : isN x n = true := by
  unfold isN
  rw [decide_eq_true (Int32.not_lt.mp h0), decide_eq_true (p := x < nI n) (Int32.not_le.mp h)]
  rfl
theorem c_hasJudge {x : Int32} (hc : CSh c) (H : CardIs M c V) (kk : Q (some (.int (nI (b2n (isN x (vn V)))))) M) : Ca 8 [.ref c, .int x] M Q := by
  obtain ⟨hS, hA, hB, hC⟩ := hc
  have hk : q_cd 8 = kd_X0_hasJudge := rfl
  show WP 8 0 [some (.ref c), some (.int x)] [] M Q
  repeat (first | refine wp_s hk rfl rfl ?_ | refine wp_goto hk rfl ?_ | refine wp_geti hk rfl rfl rfl rfl ?_ | refine wp_getr hk rfl rfl rfl rfl ?_ | refine wp_geti hk rfl hS rfl rfl ?_ | refine wp_getr hk rfl hS rfl rfl ?_)
  refine wp_iflt hk rfl (fun g => ?_) (fun g => ?_)
  · rw [isN_lo g] at kk
    repeat (first | refine wp_s hk rfl rfl ?_ | refine wp_goto hk rfl ?_ | refine wp_geti hk rfl rfl rfl rfl ?_ | refine wp_getr hk rfl rfl rfl rfl ?_ | refine wp_geti hk rfl hS rfl rfl ?_ | refine wp_getr hk rfl hS rfl rfl ?_)
    exact wp_ir hk rfl rfl kk
  · repeat (first | refine wp_s hk rfl rfl ?_ | refine wp_goto hk rfl ?_ | refine wp_geti hk rfl rfl rfl rfl ?_ | refine wp_getr hk rfl rfl rfl rfl ?_ | refine wp_geti hk rfl hS rfl rfl ?_ | refine wp_getr hk rfl hS rfl rfl ?_)
    rw [H.1]
    refine wp_icge hk rfl (fun f => ?_) (fun f => ?_)
    · rw [isN_hi f] at kk
      repeat (first | refine wp_s hk rfl rfl ?_ | refine wp_goto hk rfl ?_ | refine wp_geti hk rfl rfl rfl rfl ?_ | refine wp_getr hk rfl rfl rfl rfl ?_ | refine wp_geti hk rfl hS rfl rfl ?_ | refine wp_getr hk rfl hS rfl rfl ?_)
      exact wp_ir hk rfl rfl kk
    · rw [isN_in g f] at kk
      repeat (first | refine wp_s hk rfl rfl ?_ | refine wp_goto hk rfl ?_ | refine wp_geti hk rfl rfl rfl rfl ?_ | refine wp_getr hk rfl rfl rfl rfl ?_ | refine wp_geti hk rfl hS rfl rfl ?_ | refine wp_getr hk rfl hS rfl rfl ?_)
      exact wp_ir hk rfl rfl kk
theorem c_hasSkater {x : Int32} (hc : CSh c) (H : CardIs M c V) (kk : Q (some (.int (nI (b2n (isN x (vm V)))))) M) : Ca 9 [.ref c, .int x] M Q := by
  obtain ⟨hS, hA, hB, hC⟩ := hc
  have hk : q_cd 9 = kd_X0_hasSkater := rfl
  show WP 9 0 [some (.ref c), some (.int x)] [] M Q
  repeat (first | refine wp_s hk rfl rfl ?_ | refine wp_goto hk rfl ?_ | refine wp_geti hk rfl rfl rfl rfl ?_ | refine wp_getr hk rfl rfl rfl rfl ?_ | refine wp_geti hk rfl hS rfl rfl ?_ | refine wp_getr hk rfl hS rfl rfl ?_)
  refine wp_iflt hk rfl (fun g => ?_) (fun g => ?_)
  · rw [isN_lo g] at kk
    repeat (first | refine wp_s hk rfl rfl ?_ | refine wp_goto hk rfl ?_ | refine wp_geti hk rfl rfl rfl rfl ?_ | refine wp_getr hk rfl rfl rfl rfl ?_ | refine wp_geti hk rfl hS rfl rfl ?_ | refine wp_getr hk rfl hS rfl rfl ?_)
    exact wp_ir hk rfl rfl kk
  · repeat (first | refine wp_s hk rfl rfl ?_ | refine wp_goto hk rfl ?_ | refine wp_geti hk rfl rfl rfl rfl ?_ | refine wp_getr hk rfl rfl rfl rfl ?_ | refine wp_geti hk rfl hS rfl rfl ?_ | refine wp_getr hk rfl hS rfl rfl ?_)
    rw [H.2.1]
    refine wp_icge hk rfl (fun f => ?_) (fun f => ?_)
    · rw [isN_hi f] at kk
      repeat (first | refine wp_s hk rfl rfl ?_ | refine wp_goto hk rfl ?_ | refine wp_geti hk rfl rfl rfl rfl ?_ | refine wp_getr hk rfl rfl rfl rfl ?_ | refine wp_geti hk rfl hS rfl rfl ?_ | refine wp_getr hk rfl hS rfl rfl ?_)
      exact wp_ir hk rfl rfl kk
    · rw [isN_in g f] at kk
      repeat (first | refine wp_s hk rfl rfl ?_ | refine wp_goto hk rfl ?_ | refine wp_geti hk rfl rfl rfl rfl ?_ | refine wp_getr hk rfl rfl rfl rfl ?_ | refine wp_geti hk rfl hS rfl rfl ?_ | refine wp_getr hk rfl hS rfl rfl ?_)
      exact wp_ir hk rfl rfl kk
theorem c_markOf {j s : Nat} (hc : CSh c) (H : CardIs M c V) (hj : j < 7) (hs : s < 4) (kk : Q (some (.int (nI (vk V j s)))) M) : Ca 10 [.ref c, .int (nI j), .int (nI s)] M Q := by
  obtain ⟨hS, hA, hB, hC⟩ := hc
  have hk : q_cd 10 = kd_X0_markOf := rfl
  show WP 10 0 [some (.ref c), some (.int (nI j)), some (.int (nI s))] [] M Q
  repeat (first | refine wp_s hk rfl rfl ?_ | refine wp_goto hk rfl ?_ | refine wp_geti hk rfl rfl rfl rfl ?_ | refine wp_getr hk rfl rfl rfl rfl ?_ | refine wp_geti hk rfl hS rfl rfl ?_ | refine wp_getr hk rfl hS rfl rfl ?_)
  refine wp_ald (jx := 4 * j + s) hk rfl hA (by simp only [q_nadd, q_nmul, Nat.mul_comm]) (by omega) ?_
  rw [H.2.2.2.1 j hj s hs]
  exact wp_ir hk rfl rfl kk
theorem c_give {j s v : Nat} (hc : CSh c) (H : CardIs M c V) (hj : j < 7) (hs : s < 4) (kk : ∀ M', Kp M M' [c + 1] → CardIs M' c (setK V (mkM (vk V) j s v)) → Q none M') : Ca 11 [.ref c, .int (nI j), .int (nI s), .int (nI v)] M Q := by
  obtain ⟨hS, hA, hB, hC⟩ := hc
  have hk : q_cd 11 = kd_X0_give := rfl
  show WP 11 0 [some (.ref c), some (.int (nI j)), some (.int (nI s)), some (.int (nI v))] [] M Q
  repeat (first | refine wp_s hk rfl rfl ?_ | refine wp_goto hk rfl ?_ | refine wp_geti hk rfl rfl rfl rfl ?_ | refine wp_getr hk rfl rfl rfl rfl ?_ | refine wp_geti hk rfl hS rfl rfl ?_ | refine wp_getr hk rfl hS rfl rfl ?_)
  refine wp_ast (jx := 4 * j + s) hk rfl hA (by simp only [q_nadd, q_nmul, Nat.mul_comm]) (by omega) ?_
  obtain ⟨c1, c2, c3, c4, c5, c6⟩ := H
  refine wp_vr hk rfl (kk _ ((Kp.rf _ _).up (by simp)) ⟨?_, ?_, ?_, fun j' hj' t ht => ?_, fun j' hj' => ?_, fun t ht => ?_⟩)
  · rw [q_up_ne _ _ (by omega)]; exact c1
  · rw [q_up_ne _ _ (by omega)]; exact c2
  · rw [q_up_ne _ _ (by omega)]; exact c3
  · rw [q_up_at]
    show _ = nI (mkM (vk V) j s v j' t)
    simp only [mkM]
    by_cases e : j' = j ∧ t = s
    · obtain ⟨rfl, rfl⟩ := e
      rw [upd_at, if_pos ⟨rfl, rfl⟩]
    · rw [upd_ne _ _ (by omega), if_neg e]; exact c4 j' hj' t ht
  · rw [q_up_ne _ _ (by omega)]; exact c5 j' hj'
  · rw [q_up_ne _ _ (by omega)]; exact c6 t ht
theorem CardIs.cg {W : Vw} (H : CardIs M c V) (h1 : vn V = vn W) (h2 : vm V = vm W) (h3 : vL V = vL W) (h4 : ∀ j, j < 7 → ∀ s, s < 4 → vk V j s = vk W j s) (h5 : ∀ j, j < 7 → vj V j = vj W j) (h6 : ∀ s, s < 4 → vs V s = vs W s) : CardIs M c W := by
  obtain ⟨c1, c2, c3, c4, c5, c6⟩ := H
  exact ⟨by rw [← h1]; exact c1, by rw [← h2]; exact c2, by rw [← h3]; exact c3, fun j hj s hs => by rw [← h4 j hj s hs]; exact c4 j hj s hs, fun j hj => by rw [← h5 j hj]; exact c5 j hj, fun s hs => by rw [← h6 s hs]; exact c6 s hs⟩
theorem CardIs.kp {M' : MM} {ids : List Nat} (H : CardIs M c V) (h : Kp M M' ids) (h0 : c ∉ ids) (h1 : c + 1 ∉ ids) (h2 : c + 2 ∉ ids) (h3 : c + 3 ∉ ids) : CardIs M' c V := by
  unfold CardIs
  rw [h c h0, h (c + 1) h1, h (c + 2) h2, h (c + 3) h3]
  exact H
theorem c_rowOf {j : Nat} (hc : CSh c) (H : CardIs M c V) (hj : j < 7) (h4 : vm V ≤ 4) (kk : Q (some (.int (nI (rowW (vk V j) (vm V))))) M) : Ca 12 [.ref c, .int (nI j)] M Q := by
  have hc' := hc
  obtain ⟨hS, hA, hB, hC⟩ := hc
  have hk : q_cd 12 = kd_X0_rowOf := rfl
  show WP 12 0 [some (.ref c), some (.int (nI j)), none, none] [] M Q
  have loop := q_dn (n := vm V) (P := fun s => WP 12 7 [some (.ref c), some (.int (nI j)), some (.int (nI (rowW (vk V j) s))), some (.int (nI s))] [.int (M c 4), .int (nI s)] M Q) (by
    refine wp_icgeN (u := vm V) (v := vm V) hk rfl rfl H.2.1 (by omega) (by omega) (fun _ => ?_) (fun h => absurd h (by omega))
    repeat (first | refine wp_s hk rfl rfl ?_ | refine wp_goto hk rfl ?_ | refine wp_geti hk rfl rfl rfl rfl ?_ | refine wp_getr hk rfl rfl rfl rfl ?_ | refine wp_geti hk rfl hS rfl rfl ?_ | refine wp_getr hk rfl hS rfl rfl ?_)
    exact wp_ir hk rfl rfl kk) (by
    intro s hs ih
    refine wp_icgeN (u := s) (v := vm V) hk rfl rfl H.2.1 (by omega) (by omega) (fun h => absurd h (by omega)) (fun _ => ?_)
    simp only [rowW] at ih
    repeat (first | refine wp_s hk rfl rfl ?_ | refine wp_goto hk rfl ?_ | refine wp_geti hk rfl rfl rfl rfl ?_ | refine wp_getr hk rfl rfl rfl rfl ?_ | refine wp_geti hk rfl hS rfl rfl ?_ | refine wp_getr hk rfl hS rfl rfl ?_)
    refine wp_callV hk rfl rfl rfl rfl hS rfl ?_
    refine c_markOf hc' H hj (by omega) ?_
    repeat (first | refine wp_s hk rfl rfl ?_ | refine wp_goto hk rfl ?_ | refine wp_geti hk rfl rfl rfl rfl ?_ | refine wp_getr hk rfl rfl rfl rfl ?_ | refine wp_geti hk rfl hS rfl rfl ?_ | refine wp_getr hk rfl hS rfl rfl ?_)
    rw [q_nadd s 1, q_nmul, q_nadd, Nat.mul_comm]
    exact ih)
  repeat (first | refine wp_s hk rfl rfl ?_ | refine wp_goto hk rfl ?_ | refine wp_geti hk rfl rfl rfl rfl ?_ | refine wp_getr hk rfl rfl rfl rfl ?_ | refine wp_geti hk rfl hS rfl rfl ?_ | refine wp_getr hk rfl hS rfl rfl ?_)
  exact loop 0 (Nat.zero_le _)
theorem c_giveRow {j v : Nat} (hc : CSh c) (H : CardIs M c V) (hj : j < 7) (h4 : vm V ≤ 4) (hv : v < 2000) (kk : ∀ M', Kp M M' [c + 1] → CardIs M' c (setK V (mkG (vk V) (vm V) j v)) → Q none M') : Ca 13 [.ref c, .int (nI j), .int (nI v)] M Q := by
  have hc' := hc
  obtain ⟨hS, hA, hB, hC⟩ := hc
  have hk : q_cd 13 = kd_X0_giveRow := rfl
  show WP 13 0 [some (.ref c), some (.int (nI j)), some (.int (nI v)), none, none] [] M Q
  have loop : ∀ t, t ≤ vm V → ∀ M1, Kp M M1 [c + 1] → CardIs M1 c (setK V (fun j' s' => if j' = j ∧ t ≤ s' ∧ s' < vm V then dig (vm V) v s' else vk V j' s')) → WP 13 8 [some (.ref c), some (.int (nI j)), some (.int (nI v)), some (.int (nI (v / 6 ^ (vm V - t)))), some (.int (nI t - nI 1))] [.int (nI t - nI 1)] M1 Q := by
    intro t
    induction t with
    | zero =>
      intro ht M1 K1 C1
      refine wp_ifltD (u := 0) (v := 1) hk rfl rfl (by omega) (by omega) (fun _ => ?_) (fun h => absurd h (by omega))
      refine wp_vr hk rfl (kk M1 K1 (C1.cg rfl rfl rfl (fun j' _ s' _ => ?_) (fun _ _ => rfl) (fun _ _ => rfl)))
      show (if j' = j ∧ 0 ≤ s' ∧ s' < vm V then dig (vm V) v s' else vk V j' s') = mkG (vk V) (vm V) j v j' s'
      simp only [mkG, Nat.zero_le, true_and]
    | succ t ih =>
      intro ht M1 K1 C1
      refine wp_ifltD (u := t + 1) (v := 1) hk rfl rfl (by omega) (by omega) (fun h => absurd h (by omega)) (fun _ => ?_)
      rw [q_nsub (Nat.le_add_left 1 t), Nat.add_sub_cancel]
      have hlt : v / 6 ^ (vm V - (t + 1)) < 2000 := Nat.lt_of_le_of_lt (Nat.div_le_self _ _) hv
      repeat (first | refine wp_s hk rfl rfl ?_ | refine wp_goto hk rfl ?_ | refine wp_geti hk rfl rfl rfl rfl ?_ | refine wp_getr hk rfl rfl rfl rfl ?_ | refine wp_geti hk rfl hS rfl rfl ?_ | refine wp_getr hk rfl hS rfl rfl ?_)
      refine wp_rem hk rfl (by decide) ?_
      rw [q_nrem (b := 6) (by omega) (by omega) (by omega)]
      refine wp_callV hk rfl rfl rfl rfl hS rfl ?_
      refine c_give hc' C1 hj (by omega) (fun M2 K2 C2 => ?_)
      repeat (first | refine wp_s hk rfl rfl ?_ | refine wp_goto hk rfl ?_ | refine wp_geti hk rfl rfl rfl rfl ?_ | refine wp_getr hk rfl rfl rfl rfl ?_ | refine wp_geti hk rfl hS rfl rfl ?_ | refine wp_getr hk rfl hS rfl rfl ?_)
      refine wp_div hk rfl (by decide) ?_
      rw [q_ndiv (b := 6) (by omega) (by omega) (by omega)]
      repeat (first | refine wp_s hk rfl rfl ?_ | refine wp_goto hk rfl ?_ | refine wp_geti hk rfl rfl rfl rfl ?_ | refine wp_getr hk rfl rfl rfl rfl ?_ | refine wp_geti hk rfl hS rfl rfl ?_ | refine wp_getr hk rfl hS rfl rfl ?_)
      rw [q_dec2]
      have e6 : v / 6 ^ (vm V - (t + 1)) / 6 = v / 6 ^ (vm V - t) := by
        rw [Nat.div_div_eq_div_mul, ← Nat.pow_succ, show (vm V - (t + 1)).succ = vm V - t by omega]
      rw [e6]
      refine ih (by omega) M2 (K1.tr K2) (C2.cg rfl rfl rfl (fun j' _ s' _ => ?_) (fun _ _ => rfl) (fun _ _ => rfl))
      show mkM (fun j' s' => if j' = j ∧ t + 1 ≤ s' ∧ s' < vm V then dig (vm V) v s' else vk V j' s') j t _ j' s' = (if j' = j ∧ t ≤ s' ∧ s' < vm V then dig (vm V) v s' else vk V j' s')
      simp only [mkM]
      by_cases e : j' = j ∧ s' = t
      · obtain ⟨rfl, rfl⟩ := e
        rw [if_pos ⟨rfl, rfl⟩, if_pos ⟨rfl, Nat.le_refl _, by omega⟩]
        unfold dig
        rw [show vm V - 1 - s' = vm V - (s' + 1) by omega]
      · rw [if_neg e]
        by_cases e2 : j' = j ∧ t + 1 ≤ s' ∧ s' < vm V
        · rw [if_pos e2, if_pos (by omega)]
        · rw [if_neg e2, if_neg (by omega)]
  have := loop _ (Nat.le_refl _) M (Kp.rf _ _) (H.cg rfl rfl rfl (fun j' _ s' _ => by show vk V j' s' = if j' = j ∧ vm V ≤ s' ∧ s' < vm V then _ else vk V j' s'; rw [if_neg (by omega)]) (fun _ _ => rfl) (fun _ _ => rfl))
  rw [Nat.sub_self, Nat.pow_zero, Nat.div_one] at this
  repeat (first | refine wp_s hk rfl rfl ?_ | refine wp_goto hk rfl ?_ | refine wp_geti hk rfl rfl rfl rfl ?_ | refine wp_getr hk rfl rfl rfl rfl ?_ | refine wp_geti hk rfl hS rfl rfl ?_ | refine wp_getr hk rfl hS rfl rfl ?_)
  rw [H.2.1]
  exact this
theorem q_lbit : ∀ L, L < 128 → ∀ j, j < 7 → nI L &&& (nI 1 <<< (nI j &&& 31)) = nI (if L.testBit j = true then 2 ^ j else 0) := by decide +kernel
theorem c_counts {j : Nat} (hc : CSh c) (H : CardIs M c V) (hL : vL V < 128) (h7 : vn V ≤ 7) (hj : j < 1000) (kk : Q (some (.int (nI (b2n (vc V j))))) M) : Ca 14 [.ref c, .int (nI j)] M Q := by
  obtain ⟨hS, hA, hB, hC⟩ := hc
  have hk : q_cd 14 = kd_X0_counts := rfl
  show WP 14 0 [some (.ref c), some (.int (nI j))] [] M Q
  repeat (first | refine wp_s hk rfl rfl ?_ | refine wp_goto hk rfl ?_ | refine wp_geti hk rfl rfl rfl rfl ?_ | refine wp_getr hk rfl rfl rfl rfl ?_ | refine wp_geti hk rfl hS rfl rfl ?_ | refine wp_getr hk rfl hS rfl rfl ?_)
  refine wp_iflt hk rfl (fun g => absurd g (q_z_lt (by omega))) (fun _ => ?_)
  repeat (first | refine wp_s hk rfl rfl ?_ | refine wp_goto hk rfl ?_ | refine wp_geti hk rfl rfl rfl rfl ?_ | refine wp_getr hk rfl rfl rfl rfl ?_ | refine wp_geti hk rfl hS rfl rfl ?_ | refine wp_getr hk rfl hS rfl rfl ?_)
  refine wp_icgeN (u := j) (v := vn V) hk rfl rfl H.1 (by omega) (by omega) (fun g => ?_) (fun g => ?_)
  · rw [show vc V j = false by simp [vc, Nat.not_lt.mpr g]] at kk
    repeat (first | refine wp_s hk rfl rfl ?_ | refine wp_goto hk rfl ?_ | refine wp_geti hk rfl rfl rfl rfl ?_ | refine wp_getr hk rfl rfl rfl rfl ?_ | refine wp_geti hk rfl hS rfl rfl ?_ | refine wp_getr hk rfl hS rfl rfl ?_)
    exact wp_ir hk rfl rfl kk
  · rw [vc_b2n (Nat.lt_of_not_le g)] at kk
    repeat (first | refine wp_s hk rfl rfl ?_ | refine wp_goto hk rfl ?_ | refine wp_geti hk rfl rfl rfl rfl ?_ | refine wp_getr hk rfl rfl rfl rfl ?_ | refine wp_geti hk rfl hS rfl rfl ?_ | refine wp_getr hk rfl hS rfl rfl ?_)
    rw [H.2.2.1, q_lbit _ hL j (by omega)]
    have hp := Nat.one_le_two_pow (n := j)
    have hp2 : 2 ^ j ≤ 128 := Nat.pow_le_pow_right (by omega) (show j ≤ 7 by omega)
    cases hb : (vL V).testBit j with
    | true =>
      rw [hb] at kk
      refine wp_ifneN (u := 2 ^ j) hk rfl rfl (by omega) (fun _ => ?_) (fun z => absurd (Classical.not_not.mp z) (by omega))
      repeat (first | refine wp_s hk rfl rfl ?_ | refine wp_goto hk rfl ?_ | refine wp_geti hk rfl rfl rfl rfl ?_ | refine wp_getr hk rfl rfl rfl rfl ?_ | refine wp_geti hk rfl hS rfl rfl ?_ | refine wp_getr hk rfl hS rfl rfl ?_)
      exact wp_ir hk rfl rfl kk
    | false =>
      rw [hb] at kk
      refine wp_ifneN (u := 0) hk rfl rfl (by omega) (fun z => absurd rfl z) (fun _ => ?_)
      repeat (first | refine wp_s hk rfl rfl ?_ | refine wp_goto hk rfl ?_ | refine wp_geti hk rfl rfl rfl rfl ?_ | refine wp_getr hk rfl rfl rfl rfl ?_ | refine wp_geti hk rfl hS rfl rfl ?_ | refine wp_getr hk rfl hS rfl rfl ?_)
      exact wp_ir hk rfl rfl kk
/-- the judges of a set's other side -/
def cgW (n x : Nat) : Nat := bitsW (fun j => !x.testBit j) n
theorem q_cg : ∀ n, n ≤ 7 → ∀ x, x < 128 → (nI (2 ^ n) - nI 1) &&& (nI x ^^^ Int32.ofInt (.negSucc 0)) = nI (cgW n x) := by decide +kernel
theorem cg_pop : ∀ n, n ≤ 7 → ∀ x, x < 128 → popW (cgW n x) = sumN (fun j => if x.testBit j = true then 0 else 1) n ∧ cgW n x < 128 := by decide +kernel
theorem c_counting (hc : CSh c) (H : CardIs M c V) (hL : vL V < 128) (h7 : vn V ≤ 7) (kk : Q (some (.int (nI (cgW (vn V) (vL V))))) M) : Ca 15 [.ref c] M Q := by
  have hc' := hc
  obtain ⟨hS, hA, hB, hC⟩ := hc
  have hk : q_cd 15 = kd_X0_counting := rfl
  show WP 15 0 [some (.ref c)] [] M Q
  repeat (first | refine wp_s hk rfl rfl ?_ | refine wp_goto hk rfl ?_ | refine wp_geti hk rfl rfl rfl rfl ?_ | refine wp_getr hk rfl rfl rfl rfl ?_ | refine wp_geti hk rfl hS rfl rfl ?_ | refine wp_getr hk rfl hS rfl rfl ?_)
  refine wp_callV hk rfl rfl rfl rfl hS rfl ?_
  refine c_judgeSets hc' H h7 ?_
  repeat (first | refine wp_s hk rfl rfl ?_ | refine wp_goto hk rfl ?_ | refine wp_geti hk rfl rfl rfl rfl ?_ | refine wp_getr hk rfl rfl rfl rfl ?_ | refine wp_geti hk rfl hS rfl rfl ?_ | refine wp_getr hk rfl hS rfl rfl ?_)
  rw [H.2.2.1, q_cg _ h7 _ hL]
  exact wp_ir hk rfl rfl kk
theorem cnt_cg {V : Vw} (hL : vL V < 128) (h7 : vn V ≤ 7) : popW (cgW (vn V) (vL V)) = cntC V := by
  rw [(cg_pop _ h7 _ hL).1]
  unfold cntC
  refine sumN_congr (fun j hj => ?_)
  rw [vc_b2n hj]
  cases (vL V).testBit j <;> rfl
theorem q_not1 : ∀ L, L < 128 → ∀ j, j < 7 → nI L ||| (nI 1 <<< (nI j &&& 31)) = nI (stB L j true) ∧ nI L &&& ((nI 1 <<< (nI j &&& 31)) ^^^ Int32.ofInt (.negSucc 0)) = nI (stB L j false) := by decide +kernel
theorem CardIs.lostTo {L : Nat} {x : Int32} (H : CardIs M c V) (hx : x = nI L) : CardIs (q_up M c (upd (M c) 5 x)) c (setL V L) := by
  obtain ⟨c1, c2, c3, c4, c5, c6⟩ := H
  refine ⟨?_, ?_, ?_, fun j' hj' t ht => ?_, fun j' hj' => ?_, fun t ht => ?_⟩
  · rw [q_up_at, upd_ne _ _ (by decide)]; exact c1
  · rw [q_up_at, upd_ne _ _ (by decide)]; exact c2
  · rw [q_up_at, upd_at, hx]; rfl
  · rw [q_up_ne _ _ (by omega)]; exact c4 j' hj' t ht
  · rw [q_up_ne _ _ (by omega)]; exact c5 j' hj'
  · rw [q_up_ne _ _ (by omega)]; exact c6 t ht
theorem c_setLost {j : Nat} {z : Bool} (hc : CSh c) (H : CardIs M c V) (hL : vL V < 128) (hj : j < 7) (kk : ∀ M', Kp M M' [c] → CardIs M' c (setL V (stB (vL V) j z)) → Q none M') : Ca 16 [.ref c, .int (nI j), .int (nI (b2n z))] M Q := by
  obtain ⟨hS, hA, hB, hC⟩ := hc
  have hk : q_cd 16 = kd_X0_setLost := rfl
  show WP 16 0 [some (.ref c), some (.int (nI j)), some (.int (nI (b2n z)))] [] M Q
  repeat (first | refine wp_s hk rfl rfl ?_ | refine wp_goto hk rfl ?_ | refine wp_geti hk rfl rfl rfl rfl ?_ | refine wp_getr hk rfl rfl rfl rfl ?_ | refine wp_geti hk rfl hS rfl rfl ?_ | refine wp_getr hk rfl hS rfl rfl ?_)
  cases z with
  | true =>
    refine wp_ifeqB (u := true) hk rfl rfl (fun y => by cases y) (fun _ => ?_)
    repeat (first | refine wp_s hk rfl rfl ?_ | refine wp_goto hk rfl ?_ | refine wp_geti hk rfl rfl rfl rfl ?_ | refine wp_getr hk rfl rfl rfl rfl ?_ | refine wp_geti hk rfl hS rfl rfl ?_ | refine wp_getr hk rfl hS rfl rfl ?_)
    rw [H.2.2.1]
    refine wp_put hk rfl hS rfl rfl rfl ?_
    repeat (first | refine wp_s hk rfl rfl ?_ | refine wp_goto hk rfl ?_ | refine wp_geti hk rfl rfl rfl rfl ?_ | refine wp_getr hk rfl rfl rfl rfl ?_ | refine wp_geti hk rfl hS rfl rfl ?_ | refine wp_getr hk rfl hS rfl rfl ?_)
    exact wp_vr hk rfl (kk _ ((Kp.rf _ _).up (by simp)) (H.lostTo (q_not1 _ hL j hj).1))
  | false =>
    refine wp_ifeqB (u := false) hk rfl rfl (fun _ => ?_) (fun y => by cases y)
    repeat (first | refine wp_s hk rfl rfl ?_ | refine wp_goto hk rfl ?_ | refine wp_geti hk rfl rfl rfl rfl ?_ | refine wp_getr hk rfl rfl rfl rfl ?_ | refine wp_geti hk rfl hS rfl rfl ?_ | refine wp_getr hk rfl hS rfl rfl ?_)
    rw [H.2.2.1]
    refine wp_put hk rfl hS rfl rfl rfl ?_
    repeat (first | refine wp_s hk rfl rfl ?_ | refine wp_goto hk rfl ?_ | refine wp_geti hk rfl rfl rfl rfl ?_ | refine wp_getr hk rfl rfl rfl rfl ?_ | refine wp_geti hk rfl hS rfl rfl ?_ | refine wp_getr hk rfl hS rfl rfl ?_)
    exact wp_vr hk rfl (kk _ ((Kp.rf _ _).up (by simp)) (H.lostTo (q_not1 _ hL j hj).2))
theorem c_loseAllBut {x : Nat} (hc : CSh c) (H : CardIs M c V) (h7 : vn V ≤ 7) (hx : x < 128) (kk : ∀ M', Kp M M' [c] → CardIs M' c (setL V (vL V ||| cgW (vn V) x)) → Q none M') : Ca 17 [.ref c, .int (nI x)] M Q := by
  have hc' := hc
  obtain ⟨hS, hA, hB, hC⟩ := hc
  have hk : q_cd 17 = kd_X0_loseAllBut := rfl
  show WP 17 0 [some (.ref c), some (.int (nI x))] [] M Q
  repeat (first | refine wp_s hk rfl rfl ?_ | refine wp_goto hk rfl ?_ | refine wp_geti hk rfl rfl rfl rfl ?_ | refine wp_getr hk rfl rfl rfl rfl ?_ | refine wp_geti hk rfl hS rfl rfl ?_ | refine wp_getr hk rfl hS rfl rfl ?_)
  rw [H.2.2.1]
  refine wp_callV hk rfl rfl rfl rfl hS rfl ?_
  refine c_judgeSets hc' H h7 ?_
  repeat (first | refine wp_s hk rfl rfl ?_ | refine wp_goto hk rfl ?_ | refine wp_geti hk rfl rfl rfl rfl ?_ | refine wp_getr hk rfl rfl rfl rfl ?_ | refine wp_geti hk rfl hS rfl rfl ?_ | refine wp_getr hk rfl hS rfl rfl ?_)
  rw [q_cg _ h7 _ hx, q_nor]
  refine wp_put hk rfl hS rfl rfl rfl ?_
  exact wp_vr hk rfl (kk _ ((Kp.rf _ _).up (by simp)) (H.lostTo rfl))
theorem c_judgeLand {j : Nat} (hc : CSh c) (H : CardIs M c V) (hj : j < 7) (kk : Q (some (.int (nI (vj V j)))) M) : Ca 18 [.ref c, .int (nI j)] M Q := by
  obtain ⟨hS, hA, hB, hC⟩ := hc
  have hk : q_cd 18 = kd_X0_judgeLand := rfl
  show WP 18 0 [some (.ref c), some (.int (nI j))] [] M Q
  repeat (first | refine wp_s hk rfl rfl ?_ | refine wp_goto hk rfl ?_ | refine wp_geti hk rfl rfl rfl rfl ?_ | refine wp_getr hk rfl rfl rfl rfl ?_ | refine wp_geti hk rfl hS rfl rfl ?_ | refine wp_getr hk rfl hS rfl rfl ?_)
  refine wp_ald (jx := j) hk rfl hB rfl (by omega) ?_
  rw [H.2.2.2.2.1 j hj]
  exact wp_ir hk rfl rfl kk
theorem c_skaterLand {s : Nat} (hc : CSh c) (H : CardIs M c V) (hs : s < 4) (kk : Q (some (.int (nI (vs V s)))) M) : Ca 19 [.ref c, .int (nI s)] M Q := by
  obtain ⟨hS, hA, hB, hC⟩ := hc
  have hk : q_cd 19 = kd_X0_skaterLand := rfl
  show WP 19 0 [some (.ref c), some (.int (nI s))] [] M Q
  repeat (first | refine wp_s hk rfl rfl ?_ | refine wp_goto hk rfl ?_ | refine wp_geti hk rfl rfl rfl rfl ?_ | refine wp_getr hk rfl rfl rfl rfl ?_ | refine wp_geti hk rfl hS rfl rfl ?_ | refine wp_getr hk rfl hS rfl rfl ?_)
  refine wp_ald (jx := s) hk rfl hC rfl (by omega) ?_
  rw [H.2.2.2.2.2 s hs]
  exact wp_ir hk rfl rfl kk
theorem c_ofOneLand {j s : Nat} (hc : CSh c) (H : CardIs M c V) (O : VOK V) (hj : j < 7) (hs : s < 4) (kk : Q (some (.int (nI (b2n (decide (vj V j = vs V s)))))) M) : Ca 20 [.ref c, .int (nI j), .int (nI s)] M Q := by
  have l1 := O.2.2.2.2.2.2.1 j hj
  have l2 := O.2.2.2.2.2.2.2 s hs
  obtain ⟨hS, hA, hB, hC⟩ := hc
  have hk : q_cd 20 = kd_X0_ofOneLand := rfl
  show WP 20 0 [some (.ref c), some (.int (nI j)), some (.int (nI s))] [] M Q
  repeat (first | refine wp_s hk rfl rfl ?_ | refine wp_goto hk rfl ?_ | refine wp_geti hk rfl rfl rfl rfl ?_ | refine wp_getr hk rfl rfl rfl rfl ?_ | refine wp_geti hk rfl hS rfl rfl ?_ | refine wp_getr hk rfl hS rfl rfl ?_)
  refine wp_ald (jx := j) hk rfl hB rfl (by omega) ?_
  rw [H.2.2.2.2.1 j hj]
  repeat (first | refine wp_s hk rfl rfl ?_ | refine wp_goto hk rfl ?_ | refine wp_geti hk rfl rfl rfl rfl ?_ | refine wp_getr hk rfl rfl rfl rfl ?_ | refine wp_geti hk rfl hS rfl rfl ?_ | refine wp_getr hk rfl hS rfl rfl ?_)
  refine wp_ald (jx := s) hk rfl hC rfl (by omega) ?_
  rw [H.2.2.2.2.2 s hs]
  refine wp_icneN (u := vj V j) (v := vs V s) hk rfl rfl rfl (by omega) (by omega) (fun g => ?_) (fun g => ?_)
  · rw [decide_eq_false g] at kk
    repeat (first | refine wp_s hk rfl rfl ?_ | refine wp_goto hk rfl ?_ | refine wp_geti hk rfl rfl rfl rfl ?_ | refine wp_getr hk rfl rfl rfl rfl ?_ | refine wp_geti hk rfl hS rfl rfl ?_ | refine wp_getr hk rfl hS rfl rfl ?_)
    exact wp_ir hk rfl rfl kk
  · rw [decide_eq_true (Classical.not_not.mp g)] at kk
    repeat (first | refine wp_s hk rfl rfl ?_ | refine wp_goto hk rfl ?_ | refine wp_geti hk rfl rfl rfl rfl ?_ | refine wp_getr hk rfl rfl rfl rfl ?_ | refine wp_geti hk rfl hS rfl rfl ?_ | refine wp_getr hk rfl hS rfl rfl ?_)
    exact wp_ir hk rfl rfl kk
theorem c_moveJudge {j x : Nat} (hc : CSh c) (H : CardIs M c V) (hj : j < 7) (kk : ∀ M', Kp M M' [c + 2] → CardIs M' c (setJ V j x) → Q (some (.int (nI (vj V j)))) M') : Ca 21 [.ref c, .int (nI j), .int (nI x)] M Q := by
  obtain ⟨hS, hA, hB, hC⟩ := hc
  obtain ⟨c1, c2, c3, c4, c5, c6⟩ := H
  have hk : q_cd 21 = kd_X0_moveJudge := rfl
  show WP 21 0 [some (.ref c), some (.int (nI j)), some (.int (nI x)), none] [] M Q
  repeat (first | refine wp_s hk rfl rfl ?_ | refine wp_goto hk rfl ?_ | refine wp_geti hk rfl rfl rfl rfl ?_ | refine wp_getr hk rfl rfl rfl rfl ?_ | refine wp_geti hk rfl hS rfl rfl ?_ | refine wp_getr hk rfl hS rfl rfl ?_)
  refine wp_ald (jx := j) hk rfl hB rfl (by omega) ?_
  rw [c5 j hj]
  repeat (first | refine wp_s hk rfl rfl ?_ | refine wp_goto hk rfl ?_ | refine wp_geti hk rfl rfl rfl rfl ?_ | refine wp_getr hk rfl rfl rfl rfl ?_ | refine wp_geti hk rfl hS rfl rfl ?_ | refine wp_getr hk rfl hS rfl rfl ?_)
  refine wp_ast (jx := j) hk rfl hB rfl (by omega) ?_
  repeat (first | refine wp_s hk rfl rfl ?_ | refine wp_goto hk rfl ?_ | refine wp_geti hk rfl rfl rfl rfl ?_ | refine wp_getr hk rfl rfl rfl rfl ?_ | refine wp_geti hk rfl hS rfl rfl ?_ | refine wp_getr hk rfl hS rfl rfl ?_)
  refine wp_ir hk rfl rfl (kk _ ((Kp.rf _ _).up (by simp)) ⟨?_, ?_, ?_, fun j' hj' t ht => ?_, fun j' hj' => ?_, fun t ht => ?_⟩)
  · rw [q_up_ne _ _ (by omega)]; exact c1
  · rw [q_up_ne _ _ (by omega)]; exact c2
  · rw [q_up_ne _ _ (by omega)]; exact c3
  · rw [q_up_ne _ _ (by omega)]; exact c4 j' hj' t ht
  · rw [q_up_at]
    show _ = nI (updN (vj V) j x j')
    by_cases e : j' = j
    · subst e; rw [upd_at, updN_at]
    · rw [upd_ne _ _ e, updN_ne _ _ e]; exact c5 j' hj'
  · rw [q_up_ne _ _ (by omega)]; exact c6 t ht
theorem c_moveSkater {j x : Nat} (hc : CSh c) (H : CardIs M c V) (hj : j < 4) (kk : ∀ M', Kp M M' [c + 3] → CardIs M' c (setS V j x) → Q (some (.int (nI (vs V j)))) M') : Ca 22 [.ref c, .int (nI j), .int (nI x)] M Q := by
  obtain ⟨hS, hA, hB, hC⟩ := hc
  obtain ⟨c1, c2, c3, c4, c5, c6⟩ := H
  have hk : q_cd 22 = kd_X0_moveSkater := rfl
  show WP 22 0 [some (.ref c), some (.int (nI j)), some (.int (nI x)), none] [] M Q
  repeat (first | refine wp_s hk rfl rfl ?_ | refine wp_goto hk rfl ?_ | refine wp_geti hk rfl rfl rfl rfl ?_ | refine wp_getr hk rfl rfl rfl rfl ?_ | refine wp_geti hk rfl hS rfl rfl ?_ | refine wp_getr hk rfl hS rfl rfl ?_)
  refine wp_ald (jx := j) hk rfl hC rfl (by omega) ?_
  rw [c6 j hj]
  repeat (first | refine wp_s hk rfl rfl ?_ | refine wp_goto hk rfl ?_ | refine wp_geti hk rfl rfl rfl rfl ?_ | refine wp_getr hk rfl rfl rfl rfl ?_ | refine wp_geti hk rfl hS rfl rfl ?_ | refine wp_getr hk rfl hS rfl rfl ?_)
  refine wp_ast (jx := j) hk rfl hC rfl (by omega) ?_
  repeat (first | refine wp_s hk rfl rfl ?_ | refine wp_goto hk rfl ?_ | refine wp_geti hk rfl rfl rfl rfl ?_ | refine wp_getr hk rfl rfl rfl rfl ?_ | refine wp_geti hk rfl hS rfl rfl ?_ | refine wp_getr hk rfl hS rfl rfl ?_)
  refine wp_ir hk rfl rfl (kk _ ((Kp.rf _ _).up (by simp)) ⟨?_, ?_, ?_, fun j' hj' t ht => ?_, fun j' hj' => ?_, fun t ht => ?_⟩)
  · rw [q_up_ne _ _ (by omega)]; exact c1
  · rw [q_up_ne _ _ (by omega)]; exact c2
  · rw [q_up_ne _ _ (by omega)]; exact c3
  · rw [q_up_ne _ _ (by omega)]; exact c4 j' hj' t ht
  · rw [q_up_ne _ _ (by omega)]; exact c5 j' hj'
  · rw [q_up_at]
    show _ = nI (updN (vs V) j x t)
    by_cases e : t = j
    · subst e; rw [upd_at, updN_at]
    · rw [upd_ne _ _ e, updN_ne _ _ e]; exact c6 t ht
end CARD
