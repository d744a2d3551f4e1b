def bcA (x : Int32) (k : Nat) : Int32 := (x.toUInt32 >>> ((nI k).toUInt32 &&& Int32.toUInt32 31)).toInt32
def bc1 (x : Int32) : Int32 := x - (bcA x 1 &&& Int32.ofNat 1431655765)
def bc2 (x : Int32) : Int32 := (x &&& Int32.ofNat 858993459) + (bcA x 2 &&& Int32.ofNat 858993459)
def bc3 (x : Int32) : Int32 := (x + bcA x 4) &&& Int32.ofNat 252645135
def bc4 (x : Int32) : Int32 := x + bcA x 8
def bc5 (x : Int32) : Int32 := (x + bcA x 16) &&& nI 63
theorem q_bc : ∀ x, x < 128 → bc5 (bc4 (bc3 (bc2 (bc1 (nI x))))) = nI (popW x) := by decide +kernel
theorem sumN_tail {f : Nat → Nat} {n : Nat} (h : ∀ j, n ≤ j → f j = 0) : ∀ d, sumN f (n + d) = sumN f n
  | 0 => rfl
  | d + 1 => by
    show sumN f (n + d) + f (n + d) = _
    rw [sumN_tail h d, h _ (Nat.le_add_right _ _), Nat.add_zero]
def mbG (V : Vw) (j s k : Nat) : Nat := if ¬ k = j ∧ vc V k = true then vk V k s else 0
def mcG (V : Vw) (j k : Nat) : Nat := if ¬ k = j ∧ vc V k = true then 1 else 0
theorem vc_hi {V : Vw} {k : Nat} (h : vn V ≤ k) : vc V k = false := by simp [vc, Nat.not_lt.mpr h]
theorem lnS {V : Vw} {j f s : Nat} (hs : vs V s = f) : ∀ N, sumI (lnG V j f s) N + nI (sumN (mbG V j s) N) = nI (vk V j s) * nI (sumN (mcG V j) N)
  | 0 => by
    show nI 0 + nI 0 = nI (vk V j s) * nI 0
    rw [q_nadd, q_nmul, Nat.mul_zero]
  | N + 1 => by
    have ih := lnS (V := V) (j := j) hs N
    simp only [sumI, sumN]
    rw [← q_nadd, ← q_nadd]
    by_cases h : ¬ N = j ∧ vc V N = true
    · have e1 : lnG V j f s N = nI (vk V j s) - nI (vk V N s) := by
        unfold lnG lnB
        rw [if_pos (by rw [decide_eq_false h.1, h.2, decide_eq_true hs]; rfl)]
      have e2 : mbG V j s N = vk V N s := by unfold mbG; rw [if_pos h]
      have e3 : mcG V j N = 1 := by unfold mcG; rw [if_pos h]
      rw [e1, e2, e3, show nI 1 = 1 by decide]
      generalize sumI (lnG V j f s) N = A at *
      generalize nI (sumN (mbG V j s) N) = B at *
      generalize nI (sumN (mcG V j) N) = C at *
      generalize nI (vk V j s) = D at *
      generalize nI (vk V N s) = E at *
      grind
    · have e1 : lnG V j f s N = nI 0 := by
        unfold lnG lnB
        rw [if_neg]
        intro z
        simp only [Bool.and_eq_true, Bool.not_eq_true', decide_eq_false_iff_not] at z
        exact h ⟨z.1, z.2.1⟩
      have e2 : mbG V j s N = 0 := by unfold mbG; rw [if_neg h]
      have e3 : mcG V j N = 0 := by unfold mcG; rw [if_neg h]
      rw [e1, e2, e3, show nI 0 = 0 by decide, Int32.add_zero, Int32.add_zero, Int32.add_zero]
      exact ih
theorem lnZ {V : Vw} {j f s : Nat} (hs : ¬ vs V s = f) : ∀ N, sumI (lnG V j f s) N = nI 0
  | 0 => rfl
  | N + 1 => by
    simp only [sumI]
    rw [lnZ hs N]
    unfold lnG lnB
    rw [decide_eq_false hs, Bool.and_false, Bool.and_false, if_neg Bool.false_ne_true, q_nadd]
theorem mc_split {V : Vw} {j : Nat} (hj : vc V j = true) : ∀ N, sumN (fun k => if vc V k = true then 1 else 0) N = sumN (mcG V j) N + (if j < N then 1 else 0)
  | 0 => rfl
  | N + 1 => by
    simp only [sumN]
    rw [mc_split hj N]
    by_cases e : N = j
    · subst e
      have e3 : mcG V N N = 0 := by unfold mcG; rw [if_neg (fun z => z.1 rfl)]
      rw [e3, if_pos hj, if_neg (Nat.lt_irrefl N), if_pos (Nat.lt_succ_self N)]
    · have e4 : (if j < N + 1 then 1 else 0) = if j < N then 1 else 0 := by
        by_cases h2 : j < N
        · rw [if_pos h2, if_pos (by omega)]
        · rw [if_neg h2, if_neg (by omega)]
      rw [e4]
      by_cases h : vc V N = true
      · have e3 : mcG V j N = 1 := by unfold mcG; rw [if_pos ⟨e, h⟩]
        rw [e3, if_pos h]
        omega
      · have e3 : mcG V j N = 0 := by unfold mcG; rw [if_neg (fun z => h z.2)]
        rw [e3, if_neg h]
        omega
theorem vc_lt {V : Vw} {j : Nat} (h : vc V j = true) : j < vn V := by
  simp only [vc, Bool.and_eq_true, decide_eq_true_eq] at h
  exact h.1
theorem lnF {V : Vw} {j s : Nat} (O : VOK V) (hj : vc V j = true) : sumI (lnG V j (vs V s) s) 7 = nI (vk V j s) * (nI (cntC V) - nI 1) - nI (sumN (mbG V j s) (vn V)) := by
  have h7 := O.2.1
  have h := lnS (V := V) (j := j) (f := vs V s) (s := s) rfl 7
  have hjn := vc_lt hj
  have e1 : sumN (mbG V j s) 7 = sumN (mbG V j s) (vn V) := by
    have := sumN_tail (f := mbG V j s) (n := vn V) (fun k hk => by unfold mbG; rw [if_neg (by rw [vc_hi hk]; simp)]) (7 - vn V)
    rw [show vn V + (7 - vn V) = 7 by omega] at this
    exact this
  have e2 : sumN (mcG V j) 7 = sumN (mcG V j) (vn V) := by
    have := sumN_tail (f := mcG V j) (n := vn V) (fun k hk => by unfold mcG; rw [if_neg (by rw [vc_hi hk]; simp)]) (7 - vn V)
    rw [show vn V + (7 - vn V) = 7 by omega] at this
    exact this
  have e3 : cntC V = sumN (mcG V j) (vn V) + 1 := by
    unfold cntC
    rw [mc_split hj, if_pos hjn]
  rw [e1, e2] at h
  rw [e3, ← q_nadd, show nI 1 = 1 by decide]
  generalize sumI (lnG V j (vs V s) s) 7 = A at *
  generalize nI (sumN (mbG V j s) (vn V)) = B at *
  generalize nI (sumN (mcG V j) (vn V)) = C at *
  generalize nI (vk V j s) = D at *
  grind
theorem bt_tb (x j : Nat) : bt x j = x.testBit j := by
  unfold bt
  rw [Nat.testBit_eq_decide_div_mod_eq]
theorem vc_bt {V : Vw} {j : Nat} : vc V j = (decide (j < vn V) && !bt (vL V) j) := by rw [bt_tb]; rfl
/-- a set's bits put out -/
def anW (L x : Nat) : Nat := L ^^^ (L &&& x)
theorem q_an : ∀ L, L < 128 → ∀ x, x < 128 → nI L &&& (nI x ^^^ Int32.ofInt (.negSucc 0)) = nI (anW L x) ∧ anW L x < 128 := by decide +kernel
section CARD2
variable {M : MM} {c : Nat} {V : Vw} {Q : Option Value → MM → Prop}
theorem c_bitCount {x : Nat} (hx : x < 128) (kk : Q (some (.int (nI (popW x)))) M) : Ca 25 [.int (nI x)] M Q := by
  have hk : q_cd 25 = kd_J6_bitCount_0f7a4 := rfl
  show WP 25 0 [some (.int (nI x))] [] M Q
  repeat (first | refine wp_s hk rfl rfl ?_ | refine wp_goto hk rfl ?_ | refine wp_geti hk rfl rfl rfl rfl ?_ | refine wp_getr hk rfl rfl rfl rfl ?_)
  refine wp_ir hk rfl rfl ?_
  show Q (some (.int (bc5 (bc4 (bc3 (bc2 (bc1 (nI x)))))))) M
  rw [q_bc x hx]
  exact kk
theorem c_marksBut {j s : Nat} (hc : CSh c) (H : CardIs M c V) (O : VOK V) (hj : j < 7) (hs : s < 4) (kk : Q (some (.int (nI (sumN (mbG V j s) (vn V))))) M) : Ca 26 [.ref c, .int (nI j), .int (nI s)] M Q := by
  have hc' := hc
  have h7 := O.2.1
  have hL := O.2.2.2.2.1
  obtain ⟨hS, hA, hB, hC⟩ := hc
  have hk : q_cd 26 = kd_X0_marksBut := rfl
  show WP 26 0 [some (.ref c), some (.int (nI j)), some (.int (nI s)), none, none] [] M Q
  have loop := q_dn (n := vn V) (P := fun k => WP 26 7 [some (.ref c), some (.int (nI j)), some (.int (nI s)), some (.int (nI (sumN (mbG V j s) k))), some (.int (nI k))] [.int (M c 3), .int (nI k)] M Q) (by
    refine wp_icgeN (u := vn V) (v := vn V) hk rfl rfl H.1 (by omega) (by omega) (fun _ => ?_) (fun h => absurd h (by omega))
    repeat (first | refine wp_s hk rfl rfl ?_ | refine wp_goto hk rfl ?_ | refine wp_geti hk rfl rfl rfl rfl ?_ | refine wp_getr hk rfl rfl rfl rfl ?_ | refine wp_geti hk rfl hS rfl rfl ?_ | refine wp_getr hk rfl hS rfl rfl ?_)
    exact wp_ir hk rfl rfl kk) (by
    intro k hk7 ih
    refine wp_icgeN (u := k) (v := vn V) hk rfl rfl H.1 (by omega) (by omega) (fun h => absurd h (by omega)) (fun _ => ?_)
    simp only [sumN] at ih
    have no : ¬ (¬ k = j ∧ vc V k = true) → WP 26 22 [some (.ref c), some (.int (nI j)), some (.int (nI s)), some (.int (nI (sumN (mbG V j s) k))), some (.int (nI k))] [] M Q := by
      intro z
      rw [show mbG V j s k = 0 by unfold mbG; rw [if_neg z]] at ih
      repeat (first | refine wp_s hk rfl rfl ?_ | refine wp_goto hk rfl ?_ | refine wp_geti hk rfl rfl rfl rfl ?_ | refine wp_getr hk rfl rfl rfl rfl ?_ | refine wp_geti hk rfl hS rfl rfl ?_ | refine wp_getr hk rfl hS rfl rfl ?_)
      rw [q_nadd k 1]
      exact ih
    repeat (first | refine wp_s hk rfl rfl ?_ | refine wp_goto hk rfl ?_ | refine wp_geti hk rfl rfl rfl rfl ?_ | refine wp_getr hk rfl rfl rfl rfl ?_ | refine wp_geti hk rfl hS rfl rfl ?_ | refine wp_getr hk rfl hS rfl rfl ?_)
    refine wp_iceqN (u := k) (v := j) hk rfl rfl rfl (by omega) (by omega) (fun g => no (fun z => z.1 g)) (fun g => ?_)
    repeat (first | refine wp_s hk rfl rfl ?_ | refine wp_goto hk rfl ?_ | refine wp_geti hk rfl rfl rfl rfl ?_ | refine wp_getr hk rfl rfl rfl rfl ?_ | refine wp_geti hk rfl hS rfl rfl ?_ | refine wp_getr hk rfl hS rfl rfl ?_)
    refine wp_callV hk rfl rfl rfl rfl hS rfl ?_
    refine c_counts hc' H hL h7 (by omega) ?_
    refine wp_ifeqB hk rfl rfl (fun y => no (fun z => by rw [y] at z; cases z.2)) (fun y => ?_)
    rw [show mbG V j s k = vk V k s by unfold mbG; rw [if_pos ⟨g, y⟩]] at ih
    repeat (first | refine wp_s hk rfl rfl ?_ | refine wp_goto hk rfl ?_ | refine wp_geti hk rfl rfl rfl rfl ?_ | refine wp_getr hk rfl rfl rfl rfl ?_ | refine wp_geti hk rfl hS rfl rfl ?_ | refine wp_getr hk rfl hS rfl rfl ?_)
    refine wp_callV hk rfl rfl rfl rfl hS rfl ?_
    refine c_markOf hc' H (by omega) hs ?_
    repeat (first | refine wp_s hk rfl rfl ?_ | refine wp_goto hk rfl ?_ | refine wp_geti hk rfl rfl rfl rfl ?_ | refine wp_getr hk rfl rfl rfl rfl ?_ | refine wp_geti hk rfl hS rfl rfl ?_ | refine wp_getr hk rfl hS rfl rfl ?_)
    rw [q_nadd k 1, q_nadd]
    exact ih)
  repeat (first | refine wp_s hk rfl rfl ?_ | refine wp_goto hk rfl ?_ | refine wp_geti hk rfl rfl rfl rfl ?_ | refine wp_getr hk rfl rfl rfl rfl ?_ | refine wp_geti hk rfl hS rfl rfl ?_ | refine wp_getr hk rfl hS rfl rfl ?_)
  exact loop 0 (Nat.zero_le _)
theorem c_leanFor {j f : Nat} (hc : CSh c) (H : CardIs M c V) (O : VOK V) (hj : vc V j = true) (hf : f ≤ 3) (kk : Q (some (.int (leanV V j f))) M) : Ca 27 [.ref c, .int (nI j), .int (nI f)] M Q := by
  have hc' := hc
  have h7 := O.2.1
  have h4 := O.2.2.2.1
  have hL := O.2.2.2.2.1
  have hl2 := O.2.2.2.2.2.2.2
  have hjn := vc_lt hj
  obtain ⟨hS, hA, hB, hC⟩ := hc
  have hk : q_cd 27 = kd_X0_leanFor := rfl
  show WP 27 0 [some (.ref c), some (.int (nI j)), some (.int (nI f)), none, none, none] [] M Q
  unfold leanV at kk
  rw [if_pos hj] at kk
  have loop := q_dn (n := vm V) (P := fun s => WP 27 13 [some (.ref c), some (.int (nI j)), some (.int (nI f)), some (.int (nI (cntC V) - nI 1)), some (.int (sumI (fun s => sumI (lnG V j f s) 7) s)), some (.int (nI s))] [.int (M c 4), .int (nI s)] M Q) (by
    refine wp_icgeN (u := vm V) (v := vm V) hk rfl rfl H.2.1 (by omega) (by omega) (fun _ => ?_) (fun h => absurd h (by omega))
    repeat (first | refine wp_s hk rfl rfl ?_ | refine wp_goto hk rfl ?_ | refine wp_geti hk rfl rfl rfl rfl ?_ | refine wp_getr hk rfl rfl rfl rfl ?_ | refine wp_geti hk rfl hS rfl rfl ?_ | refine wp_getr hk rfl hS rfl rfl ?_)
    exact wp_ir hk rfl rfl kk) (by
    intro s hs ih
    refine wp_icgeN (u := s) (v := vm V) hk rfl rfl H.2.1 (by omega) (by omega) (fun h => absurd h (by omega)) (fun _ => ?_)
    rw [show sumI (fun s => sumI (lnG V j f s) 7) (s + 1) = sumI (fun s => sumI (lnG V j f s) 7) s + sumI (lnG V j f s) 7 from rfl] at ih
    have l2 := hl2 s (by omega)
    repeat (first | refine wp_s hk rfl rfl ?_ | refine wp_goto hk rfl ?_ | refine wp_geti hk rfl rfl rfl rfl ?_ | refine wp_getr hk rfl rfl rfl rfl ?_ | refine wp_geti hk rfl hS rfl rfl ?_ | refine wp_getr hk rfl hS rfl rfl ?_)
    refine wp_ald (jx := s) hk rfl hC rfl (by omega) ?_
    rw [H.2.2.2.2.2 s (by omega)]
    repeat (first | refine wp_s hk rfl rfl ?_ | refine wp_goto hk rfl ?_ | refine wp_geti hk rfl rfl rfl rfl ?_ | refine wp_getr hk rfl rfl rfl rfl ?_ | refine wp_geti hk rfl hS rfl rfl ?_ | refine wp_getr hk rfl hS rfl rfl ?_)
    refine wp_icneN (u := vs V s) (v := f) hk rfl rfl rfl (by omega) (by omega) (fun g => ?_) (fun g => ?_)
    · rw [lnZ g, show nI 0 = 0 by decide, Int32.add_zero] at ih
      repeat (first | refine wp_s hk rfl rfl ?_ | refine wp_goto hk rfl ?_ | refine wp_geti hk rfl rfl rfl rfl ?_ | refine wp_getr hk rfl rfl rfl rfl ?_ | refine wp_geti hk rfl hS rfl rfl ?_ | refine wp_getr hk rfl hS rfl rfl ?_)
      rw [q_nadd s 1]
      exact ih
    · have g' : vs V s = f := Classical.not_not.mp g
      subst g'
      rw [lnF O hj] at ih
      repeat (first | refine wp_s hk rfl rfl ?_ | refine wp_goto hk rfl ?_ | refine wp_geti hk rfl rfl rfl rfl ?_ | refine wp_getr hk rfl rfl rfl rfl ?_ | refine wp_geti hk rfl hS rfl rfl ?_ | refine wp_getr hk rfl hS rfl rfl ?_)
      refine wp_callV hk rfl rfl rfl rfl hS rfl ?_
      refine c_markOf hc' H (by omega) (by omega) ?_
      repeat (first | refine wp_s hk rfl rfl ?_ | refine wp_goto hk rfl ?_ | refine wp_geti hk rfl rfl rfl rfl ?_ | refine wp_getr hk rfl rfl rfl rfl ?_ | refine wp_geti hk rfl hS rfl rfl ?_ | refine wp_getr hk rfl hS rfl rfl ?_)
      refine wp_callV hk rfl rfl rfl rfl hS rfl ?_
      refine c_marksBut hc' H O (by omega) (by omega) ?_
      repeat (first | refine wp_s hk rfl rfl ?_ | refine wp_goto hk rfl ?_ | refine wp_geti hk rfl rfl rfl rfl ?_ | refine wp_getr hk rfl rfl rfl rfl ?_ | refine wp_geti hk rfl hS rfl rfl ?_ | refine wp_getr hk rfl hS rfl rfl ?_)
      rw [q_nadd s 1]
      exact ih)
  repeat (first | refine wp_s hk rfl rfl ?_ | refine wp_goto hk rfl ?_ | refine wp_geti hk rfl rfl rfl rfl ?_ | refine wp_getr hk rfl rfl rfl rfl ?_ | refine wp_geti hk rfl hS rfl rfl ?_ | refine wp_getr hk rfl hS rfl rfl ?_)
  refine wp_callV hk rfl rfl rfl rfl hS rfl ?_
  refine c_counting hc' H hL h7 ?_
  repeat (first | refine wp_s hk rfl rfl ?_ | refine wp_goto hk rfl ?_ | refine wp_geti hk rfl rfl rfl rfl ?_ | refine wp_getr hk rfl rfl rfl rfl ?_ | refine wp_geti hk rfl hS rfl rfl ?_ | refine wp_getr hk rfl hS rfl rfl ?_)
  refine wp_callS hk rfl rfl rfl rfl ?_
  refine c_bitCount (cg_pop _ h7 _ hL).2 ?_
  rw [cnt_cg hL h7]
  repeat (first | refine wp_s hk rfl rfl ?_ | refine wp_goto hk rfl ?_ | refine wp_geti hk rfl rfl rfl rfl ?_ | refine wp_getr hk rfl rfl rfl rfl ?_ | refine wp_geti hk rfl hS rfl rfl ?_ | refine wp_getr hk rfl hS rfl rfl ?_)
  exact loop 0 (Nat.zero_le _)
theorem VOK.setL {L : Nat} (O : VOK V) (h : L < 128) : VOK (setL V L) := ⟨O.1, O.2.1, O.2.2.1, O.2.2.2.1, h, O.2.2.2.2.2.1, O.2.2.2.2.2.2.1, O.2.2.2.2.2.2.2⟩
theorem VOK.setK {k : Nat → Nat → Nat} (O : VOK V) (h : ∀ j, j < 7 → ∀ s, s < 4 → k j s ≤ 5) : VOK (setK V k) := ⟨O.1, O.2.1, O.2.2.1, O.2.2.2.1, O.2.2.2.2.1, h, O.2.2.2.2.2.2.1, O.2.2.2.2.2.2.2⟩
theorem c_favour {set s : Nat} (hc : CSh c) (H : CardIs M c V) (O : VOK V) (hset : set < 128) (hs : s < 4) (kk : ∀ M', Kp M M' [c, c + 1] → CardIs M' c (setK (setL V (anW (vL V) set)) (mkB (vk V) (vn V) (vm V) set s)) → Q none M') : Ca 23 [.ref c, .int (nI set), .int (nI s)] M Q := by
  have hc' := hc
  have h7 := O.2.1
  have h4 := O.2.2.2.1
  have hL := O.2.2.2.2.1
  obtain ⟨hS, hA, hB, hC⟩ := hc
  have hk : q_cd 23 = kd_X0_favour := rfl
  show WP 23 0 [some (.ref c), some (.int (nI set)), some (.int (nI s)), none, none] [] M Q
  repeat (first | refine wp_s hk rfl rfl ?_ | refine wp_goto hk rfl ?_ | refine wp_geti hk rfl rfl rfl rfl ?_ | refine wp_getr hk rfl rfl rfl rfl ?_ | refine wp_geti hk rfl hS rfl rfl ?_ | refine wp_getr hk rfl hS rfl rfl ?_)
  rw [H.2.2.1, (q_an _ hL _ hset).1]
  refine wp_put hk rfl hS rfl rfl rfl ?_
  have H0 : CardIs (q_up M c (upd (M c) 5 (nI (anW (vL V) set)))) c (setL V (anW (vL V) set)) := H.lostTo rfl
  have K0 : Kp M (q_up M c (upd (M c) 5 (nI (anW (vL V) set)))) [c, c + 1] := (Kp.rf _ _).up (by simp)
  change WP 23 _ _ _ (q_up M c (upd (M c) 5 (nI (anW (vL V) set)))) _
  generalize q_up M c (upd (M c) 5 (nI (anW (vL V) set))) = M0 at H0 K0 ⊢
  generalize anW (vL V) set = L' at H0 kk ⊢
  have loop := q_dn (n := vn V) (P := fun j => ∀ M1 x4, Kp M M1 [c, c + 1] → CardIs M1 c (setK (setL V L') (mkB (vk V) j (vm V) set s)) → WP 23 13 [some (.ref c), some (.int (nI set)), some (.int (nI s)), some (.int (nI j)), x4] [.int (M1 c 3), .int (nI j)] M1 Q) (by
    intro M1 x4 K1 C1
    refine wp_icgeN (u := vn V) (v := vn V) hk rfl rfl C1.1 (by omega) (by omega) (fun _ => ?_) (fun h => absurd h (by omega))
    exact wp_vr hk rfl (kk M1 K1 C1)) (by
    intro j hj ih M1 x4 K1 C1
    refine wp_icgeN (u := j) (v := vn V) hk rfl rfl C1.1 (by omega) (by omega) (fun h => absurd h (by omega)) (fun _ => ?_)
    have hp := Nat.one_le_two_pow (n := j)
    have hp2 : 2 ^ j ≤ 128 := Nat.pow_le_pow_right (by omega) (show j ≤ 7 by omega)
    repeat (first | refine wp_s hk rfl rfl ?_ | refine wp_goto hk rfl ?_ | refine wp_geti hk rfl rfl rfl rfl ?_ | refine wp_getr hk rfl rfl rfl rfl ?_ | refine wp_geti hk rfl hS rfl rfl ?_ | refine wp_getr hk rfl hS rfl rfl ?_)
    rw [q_lbit _ hset j (by omega)]
    cases hb : set.testBit j with
    | false =>
      refine wp_ifeqN (u := 0) hk rfl rfl (by omega) (fun _ => ?_) (fun z => absurd rfl z)
      repeat (first | refine wp_s hk rfl rfl ?_ | refine wp_goto hk rfl ?_ | refine wp_geti hk rfl rfl rfl rfl ?_ | refine wp_getr hk rfl rfl rfl rfl ?_ | refine wp_geti hk rfl hS rfl rfl ?_ | refine wp_getr hk rfl hS rfl rfl ?_)
      rw [q_nadd j 1]
      refine ih M1 _ K1 (C1.cg rfl rfl rfl (fun j' _ s' _ => ?_) (fun _ _ => rfl) (fun _ _ => rfl))
      show mkB (vk V) j (vm V) set s j' s' = mkB (vk V) (j + 1) (vm V) set s j' s'
      simp only [mkB]
      by_cases e : j' = j
      · subst e; rw [if_neg (by omega), if_neg (by rw [bt_tb, hb]; simp)]
      · by_cases e2 : j' < j ∧ bt set j' = true ∧ s' < vm V
        · rw [if_pos e2, if_pos ⟨by omega, e2.2⟩]
        · rw [if_neg e2, if_neg (fun z => e2 ⟨by omega, z.2⟩)]
    | true =>
      refine wp_ifeqN (u := 2 ^ j) hk rfl rfl (by omega) (fun z => absurd z (by omega)) (fun _ => ?_)
      have inner := q_dn (n := vm V) (P := fun t => ∀ M3, Kp M M3 [c, c + 1] → CardIs M3 c (setK (setL V L') (fun j' s' => if j' = j ∧ s' < t then fv5 s' s else mkB (vk V) j (vm V) set s j' s')) → WP 23 25 [some (.ref c), some (.int (nI set)), some (.int (nI s)), some (.int (nI j)), some (.int (nI t))] [.int (M3 c 4), .int (nI t)] M3 Q) (by
        intro M3 K3 C3
        refine wp_icgeN (u := vm V) (v := vm V) hk rfl rfl C3.2.1 (by omega) (by omega) (fun _ => ?_) (fun h => absurd h (by omega))
        repeat (first | refine wp_s hk rfl rfl ?_ | refine wp_goto hk rfl ?_ | refine wp_geti hk rfl rfl rfl rfl ?_ | refine wp_getr hk rfl rfl rfl rfl ?_ | refine wp_geti hk rfl hS rfl rfl ?_ | refine wp_getr hk rfl hS rfl rfl ?_)
        rw [q_nadd j 1]
        refine ih M3 _ K3 (C3.cg rfl rfl rfl (fun j' _ s' _ => ?_) (fun _ _ => rfl) (fun _ _ => rfl))
        show (if j' = j ∧ s' < vm V then fv5 s' s else mkB (vk V) j (vm V) set s j' s') = mkB (vk V) (j + 1) (vm V) set s j' s'
        simp only [mkB]
        by_cases e : j' = j
        · subst e
          by_cases e3 : s' < vm V
          · rw [if_pos ⟨rfl, e3⟩, if_pos ⟨by omega, by rw [bt_tb]; exact hb, e3⟩]
          · rw [if_neg (fun z => e3 z.2), if_neg (by omega), if_neg (fun z => e3 z.2.2)]
        · rw [if_neg (fun z => e z.1)]
          by_cases e2 : j' < j ∧ bt set j' = true ∧ s' < vm V
          · rw [if_pos e2, if_pos ⟨by omega, e2.2⟩]
          · rw [if_neg e2, if_neg (fun z => e2 ⟨by omega, z.2⟩)]) (by
        intro t ht iht M3 K3 C3
        refine wp_icgeN (u := t) (v := vm V) hk rfl rfl C3.2.1 (by omega) (by omega) (fun h => absurd h (by omega)) (fun _ => ?_)
        have fin : ∀ z, z = fv5 t s → WP 23 35 [some (.ref c), some (.int (nI set)), some (.int (nI s)), some (.int (nI j)), some (.int (nI t))] [.int (nI z), .int (nI t), .int (nI j), .ref c] M3 Q := by
          intro z hz
          refine wp_callV hk rfl rfl rfl rfl hS rfl ?_
          refine c_give hc' C3 (by omega) (by omega) (fun M4 K4 C4 => ?_)
          repeat (first | refine wp_s hk rfl rfl ?_ | refine wp_goto hk rfl ?_ | refine wp_geti hk rfl rfl rfl rfl ?_ | refine wp_getr hk rfl rfl rfl rfl ?_ | refine wp_geti hk rfl hS rfl rfl ?_ | refine wp_getr hk rfl hS rfl rfl ?_)
          rw [q_nadd t 1]
          refine iht M4 (K3.tr (K4.mono (by simp))) (C4.cg rfl rfl rfl (fun j' _ s' _ => ?_) (fun _ _ => rfl) (fun _ _ => rfl))
          show mkM (fun j' s' => if j' = j ∧ s' < t then fv5 s' s else mkB (vk V) j (vm V) set s j' s') j t z j' s' = (if j' = j ∧ s' < t + 1 then fv5 s' s else mkB (vk V) j (vm V) set s j' s')
          simp only [mkM]
          by_cases e : j' = j ∧ s' = t
          · obtain ⟨rfl, rfl⟩ := e
            rw [if_pos ⟨rfl, rfl⟩, if_pos ⟨rfl, by omega⟩, hz]
          · rw [if_neg e]
            by_cases e2 : j' = j ∧ s' < t
            · rw [if_pos e2, if_pos ⟨e2.1, by omega⟩]
            · rw [if_neg e2, if_neg (by omega)]
        repeat (first | refine wp_s hk rfl rfl ?_ | refine wp_goto hk rfl ?_ | refine wp_geti hk rfl rfl rfl rfl ?_ | refine wp_getr hk rfl rfl rfl rfl ?_ | refine wp_geti hk rfl hS rfl rfl ?_ | refine wp_getr hk rfl hS rfl rfl ?_)
        refine wp_icneN (u := t) (v := s) hk rfl rfl rfl (by omega) (by omega) (fun g => ?_) (fun g => ?_)
        · refine wp_s hk rfl rfl ?_
          exact fin 0 (by unfold fv5; rw [if_neg g])
        · refine wp_s hk rfl rfl ?_
          refine wp_goto hk rfl ?_
          exact fin 5 (by unfold fv5; rw [if_pos (Classical.not_not.mp g)]))
      repeat (first | refine wp_s hk rfl rfl ?_ | refine wp_goto hk rfl ?_ | refine wp_geti hk rfl rfl rfl rfl ?_ | refine wp_getr hk rfl rfl rfl rfl ?_ | refine wp_geti hk rfl hS rfl rfl ?_ | refine wp_getr hk rfl hS rfl rfl ?_)
      exact inner 0 (Nat.zero_le _) M1 K1 (C1.cg rfl rfl rfl (fun j' _ s' _ => by show mkB (vk V) j (vm V) set s j' s' = if j' = j ∧ s' < 0 then _ else _; rw [if_neg (by omega)]) (fun _ _ => rfl) (fun _ _ => rfl)))
  repeat (first | refine wp_s hk rfl rfl ?_ | refine wp_goto hk rfl ?_ | refine wp_geti hk rfl rfl rfl rfl ?_ | refine wp_getr hk rfl rfl rfl rfl ?_ | refine wp_geti hk rfl hS rfl rfl ?_ | refine wp_getr hk rfl hS rfl rfl ?_)
  exact loop 0 (Nat.zero_le _) M0 _ K0 (H0.cg rfl rfl rfl (fun j' _ s' _ => by show vk V j' s' = mkB (vk V) 0 (vm V) set s j' s'; simp only [mkB]; rw [if_neg (by omega)]) (fun _ _ => rfl) (fun _ _ => rfl))
theorem c_leanAll {set : Nat} (hc : CSh c) (H : CardIs M c V) (O : VOK V) (hset : set < 128) (kk : ∀ M', Kp M M' [c + 1] → CardIs M' c (setK V (mkL V (vn V) set)) → Q none M') : Ca 24 [.ref c, .int (nI set)] M Q := by
  have hc' := hc
  have h7 := O.2.1
  have h4 := O.2.2.2.1
  obtain ⟨hS, hA, hB, hC⟩ := hc
  have hk : q_cd 24 = kd_X0_leanAll := rfl
  show WP 24 0 [some (.ref c), some (.int (nI set)), none, none] [] M Q
  have loop := q_dn (n := vn V) (P := fun j => ∀ M1 x3, Kp M M1 [c + 1] → CardIs M1 c (setK V (mkL V j set)) → WP 24 5 [some (.ref c), some (.int (nI set)), some (.int (nI j)), x3] [.int (M1 c 3), .int (nI j)] M1 Q) (by
    intro M1 x3 K1 C1
    refine wp_icgeN (u := vn V) (v := vn V) hk rfl rfl C1.1 (by omega) (by omega) (fun _ => ?_) (fun h => absurd h (by omega))
    exact wp_vr hk rfl (kk M1 K1 C1)) (by
    intro j hj ih M1 x3 K1 C1
    refine wp_icgeN (u := j) (v := vn V) hk rfl rfl C1.1 (by omega) (by omega) (fun h => absurd h (by omega)) (fun _ => ?_)
    have hp := Nat.one_le_two_pow (n := j)
    have hp2 : 2 ^ j ≤ 128 := Nat.pow_le_pow_right (by omega) (show j ≤ 7 by omega)
    repeat (first | refine wp_s hk rfl rfl ?_ | refine wp_goto hk rfl ?_ | refine wp_geti hk rfl rfl rfl rfl ?_ | refine wp_getr hk rfl rfl rfl rfl ?_ | refine wp_geti hk rfl hS rfl rfl ?_ | refine wp_getr hk rfl hS rfl rfl ?_)
    rw [q_lbit _ hset j (by omega)]
    cases hb : set.testBit j with
    | false =>
      refine wp_ifeqN (u := 0) hk rfl rfl (by omega) (fun _ => ?_) (fun z => absurd rfl z)
      repeat (first | refine wp_s hk rfl rfl ?_ | refine wp_goto hk rfl ?_ | refine wp_geti hk rfl rfl rfl rfl ?_ | refine wp_getr hk rfl rfl rfl rfl ?_ | refine wp_geti hk rfl hS rfl rfl ?_ | refine wp_getr hk rfl hS rfl rfl ?_)
      rw [q_nadd j 1]
      refine ih M1 _ K1 (C1.cg rfl rfl rfl (fun j' _ s' _ => ?_) (fun _ _ => rfl) (fun _ _ => rfl))
      show mkL V j set j' s' = mkL V (j + 1) set j' s'
      simp only [mkL]
      by_cases e : j' = j
      · subst e; rw [if_neg (by omega), if_neg (by rw [bt_tb, hb]; simp)]
      · by_cases e2 : j' < j ∧ bt set j' = true ∧ s' < vm V
        · rw [if_pos e2, if_pos ⟨by omega, e2.2⟩]
        · rw [if_neg e2, if_neg (fun z => e2 ⟨by omega, z.2⟩)]
    | true =>
      refine wp_ifeqN (u := 2 ^ j) hk rfl rfl (by omega) (fun z => absurd z (by omega)) (fun _ => ?_)
      have inner := q_dn (n := vm V) (P := fun t => ∀ M3, Kp M M3 [c + 1] → CardIs M3 c (setK V (fun j' s' => if j' = j ∧ s' < t then fv5 (vs V s') (vj V j) else mkL V j set j' s')) → WP 24 17 [some (.ref c), some (.int (nI set)), some (.int (nI j)), some (.int (nI t))] [.int (M3 c 4), .int (nI t)] M3 Q) (by
        intro M3 K3 C3
        refine wp_icgeN (u := vm V) (v := vm V) hk rfl rfl C3.2.1 (by omega) (by omega) (fun _ => ?_) (fun h => absurd h (by omega))
        repeat (first | refine wp_s hk rfl rfl ?_ | refine wp_goto hk rfl ?_ | refine wp_geti hk rfl rfl rfl rfl ?_ | refine wp_getr hk rfl rfl rfl rfl ?_ | refine wp_geti hk rfl hS rfl rfl ?_ | refine wp_getr hk rfl hS rfl rfl ?_)
        rw [q_nadd j 1]
        refine ih M3 _ K3 (C3.cg rfl rfl rfl (fun j' _ s' _ => ?_) (fun _ _ => rfl) (fun _ _ => rfl))
        show (if j' = j ∧ s' < vm V then fv5 (vs V s') (vj V j) else mkL V j set j' s') = mkL V (j + 1) set j' s'
        simp only [mkL]
        by_cases e : j' = j
        · subst e
          by_cases e3 : s' < vm V
          · rw [if_pos ⟨rfl, e3⟩, if_pos ⟨by omega, by rw [bt_tb]; exact hb, e3⟩]
          · rw [if_neg (fun z => e3 z.2), if_neg (by omega), if_neg (fun z => e3 z.2.2)]
        · rw [if_neg (fun z => e z.1)]
          by_cases e2 : j' < j ∧ bt set j' = true ∧ s' < vm V
          · rw [if_pos e2, if_pos ⟨by omega, e2.2⟩]
          · rw [if_neg e2, if_neg (fun z => e2 ⟨by omega, z.2⟩)]) (by
        intro t ht iht M3 K3 C3
        refine wp_icgeN (u := t) (v := vm V) hk rfl rfl C3.2.1 (by omega) (by omega) (fun h => absurd h (by omega)) (fun _ => ?_)
        have fin : ∀ z, z = fv5 (vs V t) (vj V j) → WP 24 29 [some (.ref c), some (.int (nI set)), some (.int (nI j)), some (.int (nI t))] [.int (nI z), .int (nI t), .int (nI j), .ref c] M3 Q := by
          intro z hz
          refine wp_callV hk rfl rfl rfl rfl hS rfl ?_
          refine c_give hc' C3 (by omega) (by omega) (fun M4 K4 C4 => ?_)
          repeat (first | refine wp_s hk rfl rfl ?_ | refine wp_goto hk rfl ?_ | refine wp_geti hk rfl rfl rfl rfl ?_ | refine wp_getr hk rfl rfl rfl rfl ?_ | refine wp_geti hk rfl hS rfl rfl ?_ | refine wp_getr hk rfl hS rfl rfl ?_)
          rw [q_nadd t 1]
          refine iht M4 (K3.tr K4) (C4.cg rfl rfl rfl (fun j' _ s' _ => ?_) (fun _ _ => rfl) (fun _ _ => rfl))
          show mkM (fun j' s' => if j' = j ∧ s' < t then fv5 (vs V s') (vj V j) else mkL V j set j' s') j t z j' s' = (if j' = j ∧ s' < t + 1 then fv5 (vs V s') (vj V j) else mkL V j set j' s')
          simp only [mkM]
          by_cases e : j' = j ∧ s' = t
          · obtain ⟨rfl, rfl⟩ := e
            rw [if_pos ⟨rfl, rfl⟩, if_pos ⟨rfl, by omega⟩, hz]
          · rw [if_neg e]
            by_cases e2 : j' = j ∧ s' < t
            · rw [if_pos e2, if_pos ⟨e2.1, by omega⟩]
            · rw [if_neg e2, if_neg (by omega)]
        have C3' : CardIs M3 c (setK V (fun j' s' => if j' = j ∧ s' < t then fv5 (vs V s') (vj V j) else if j' < 7 ∧ s' < 4 then mkL V j set j' s' else 0)) := C3.cg rfl rfl rfl (fun j' hj' s' hs' => by
          show (if j' = j ∧ s' < t then fv5 (vs V s') (vj V j) else mkL V j set j' s') = if j' = j ∧ s' < t then fv5 (vs V s') (vj V j) else if j' < 7 ∧ s' < 4 then mkL V j set j' s' else 0
          rw [if_pos (show j' < 7 ∧ s' < 4 from ⟨hj', hs'⟩)]) (fun _ _ => rfl) (fun _ _ => rfl)
        have O3 : VOK (setK V (fun j' s' => if j' = j ∧ s' < t then fv5 (vs V s') (vj V j) else if j' < 7 ∧ s' < 4 then mkL V j set j' s' else 0)) := O.setK (fun j' hj' s' hs' => by
          have := O.2.2.2.2.2.1 j' hj' s' hs'
          unfold fv5 mkL fv5
          repeat' split
          all_goals omega)
        repeat (first | refine wp_s hk rfl rfl ?_ | refine wp_goto hk rfl ?_ | refine wp_geti hk rfl rfl rfl rfl ?_ | refine wp_getr hk rfl rfl rfl rfl ?_ | refine wp_geti hk rfl hS rfl rfl ?_ | refine wp_getr hk rfl hS rfl rfl ?_)
        refine wp_callV hk rfl rfl rfl rfl hS rfl ?_
        refine c_ofOneLand hc' C3' O3 (by omega) (by omega) ?_
        change WP 24 _ _ [.int (nI (b2n (decide (vj V j = vs V t)))), _, _, _] _ _
        refine wp_ifeqB hk rfl rfl (fun g => ?_) (fun g => ?_)
        · refine wp_s hk rfl rfl ?_
          exact fin 0 (by unfold fv5; rw [if_neg (fun z => by rw [decide_eq_true z.symm] at g; cases g)])
        · refine wp_s hk rfl rfl ?_
          refine wp_goto hk rfl ?_
          exact fin 5 (by unfold fv5; rw [if_pos (of_decide_eq_true g).symm]))
      repeat (first | refine wp_s hk rfl rfl ?_ | refine wp_goto hk rfl ?_ | refine wp_geti hk rfl rfl rfl rfl ?_ | refine wp_getr hk rfl rfl rfl rfl ?_ | refine wp_geti hk rfl hS rfl rfl ?_ | refine wp_getr hk rfl hS rfl rfl ?_)
      exact inner 0 (Nat.zero_le _) M1 K1 (C1.cg rfl rfl rfl (fun j' _ s' _ => by show mkL V j set j' s' = if j' = j ∧ s' < 0 then _ else _; rw [if_neg (by omega)]) (fun _ _ => rfl) (fun _ _ => rfl)))
  repeat (first | refine wp_s hk rfl rfl ?_ | refine wp_goto hk rfl ?_ | refine wp_geti hk rfl rfl rfl rfl ?_ | refine wp_getr hk rfl rfl rfl rfl ?_ | refine wp_geti hk rfl hS rfl rfl ?_ | refine wp_getr hk rfl hS rfl rfl ?_)
  exact loop 0 (Nat.zero_le _) M _ (Kp.rf _ _) (H.cg rfl rfl rfl (fun j' _ s' _ => by show vk V j' s' = mkL V 0 set j' s'; simp only [mkL]; rw [if_neg (by omega)]) (fun _ _ => rfl) (fun _ _ => rfl))
end CARD2
