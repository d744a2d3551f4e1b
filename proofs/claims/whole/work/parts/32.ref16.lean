/-! the text -/
theorem RefInv.text {M M' : MM} {S : St} {T : Nat × (Nat → Nat)} (I : RefInv M S) (h : ∀ i ∈ [84, 85, 86, 87, 94, 95, 96, 97, 101, 102, 103, 104, 105, 106], M' i = M i) (h1 : ∀ j, j ≠ 10 → j ≠ 0 → M' 83 j = M 83 j) (h2 : M' 83 10 = nI T.1) (h3 : ∀ i, i < T.1 → M' 90 i = nI (T.2 i)) : RefInv M' (sV S, T, sR S, sN S, sP S) := by
  obtain ⟨⟨a1, a2, a3, a4, a5, a6⟩, ⟨b1, b2⟩, ⟨c1, c2, c3⟩, d1, e1⟩ := I
  have g84 := h 84 (by decide); have g85 := h 85 (by decide); have g86 := h 86 (by decide); have g87 := h 87 (by decide)
  have g94 := h 94 (by decide); have g95 := h 95 (by decide); have g96 := h 96 (by decide); have g97 := h 97 (by decide)
  have g101 := h 101 (by decide); have g102 := h 102 (by decide); have g103 := h 103 (by decide); have g104 := h 104 (by decide); have g105 := h 105 (by decide); have g106 := h 106 (by decide)
  refine ⟨⟨by rw [h1 1 (by decide) (by decide)]; exact a1, by rw [h1 2 (by decide) (by decide)]; exact a2, by rw [g87]; exact a3, by rw [g86]; exact a4, by rw [g84]; exact a5, by rw [g85]; exact a6⟩, ⟨h2, h3⟩, ⟨fun r hr => ?_, by rw [g94]; exact c2, by rw [g95]; exact c3⟩, by rw [h1 22 (by decide) (by decide)]; exact d1, fun i hi => ?_⟩
  · have := c1 r hr
    unfold RefRu at this ⊢
    rw [g94, g95, g96, g97]
    exact this
  · have := e1 i hi
    unfold RefPast at this ⊢
    rw [g101, g102, g103, g104, g105, g106]
    exact this
theorem and255 (z : Int32) : z &&& nI 255 = nI (z.toBitVec.toNat % 256) := by
  apply Int32.toBitVec_inj.mp
  apply BitVec.eq_of_toNat_eq
  rw [Int32.toBitVec_and, BitVec.toNat_and]
  show z.toBitVec.toNat &&& 255 = (z.toBitVec.toNat % 256) % 2 ^ 32
  rw [show (255 : Nat) = 2 ^ 8 - 1 by rfl, Nat.and_two_pow_sub_one_eq_mod]
  omega
/-- a byte of a long -/
def byN (x : Int64) (k : Nat) : Nat := (x >>> ((nI (8 * k)).toInt64 &&& 63)).toInt32.toBitVec.toNat % 256
theorem byN_lt (x : Int64) (k : Nat) : byN x k < 256 := Nat.mod_lt _ (by omega)
def wrT (T : Nat × (Nat → Nat)) (n : Nat) (x : Int64) : Nat → Nat := fun i => if i < T.1 then T.2 i else byN x (n - 1 - (i - T.1))
def opWrite (S : St) (a : Int32) (x : Int64) : Int32 × St := if isR a 1 8 then (if (sT S).1 + i2n a ≤ 16 then (nI ((sT S).1 + i2n a), (sV S, ((sT S).1 + i2n a, wrT (sT S) (i2n a) x), sR S, sN S, sP S)) else (FULL, S)) else (BAD, S)
theorem m_write {M : MM} {S : St} {a : Int32} {x : Int64} {Q : Option Value → MM → Prop} (I : RefInv M S) (O : StOK S) (kk : ∀ M', RefInv M' (opWrite S a x).2 → Hi M M' → Q (some (.int (opWrite S a x).1)) M') : Ca 146 [.ref 83, .int a, .long x] M Q := by
  have hT := O.2.1.1
  have hk : q_cd 146 = kd_X9_write := rfl
  show WP 146 0 [some (.ref 83), some (.int a), some (.long x), none, none] [] M Q
  repeat (first | refine wp_s hk rfl rfl ?_ | refine wp_goto hk rfl ?_ | refine wp_geti hk rfl rfl rfl rfl ?_ | refine wp_getr hk rfl rfl rfl rfl ?_)
  refine wp_th hk rfl (fun M0 F0 => ?_)
  have I0 := I.fr O F0
  have H0 := Hi.fr F0
  unfold opWrite at kk
  repeat (first | refine wp_s hk rfl rfl ?_ | refine wp_goto hk rfl ?_ | refine wp_geti hk rfl rfl rfl rfl ?_ | refine wp_getr hk rfl rfl rfl rfl ?_)
  refine wp_callS hk rfl rfl rfl rfl ?_
  refine m_in ?_
  refine wp_ifneB (u := isR a 1 8) hk rfl (congrArg (fun z => nI (b2n z)) (q_in64 (by omega) (by omega))) (fun g => ?_) (fun g => ?_)
  · rw [if_pos g] at kk
    obtain ⟨ha1, ha8, ea⟩ := isR_of (by omega) (by omega) g
    rw [ea]
    generalize i2n a = n at ha1 ha8 kk ⊢
    have b1 := I0.2.1.1
    have b2 := I0.2.1.2
    repeat (first | refine wp_s hk rfl rfl ?_ | refine wp_goto hk rfl ?_ | refine wp_geti hk rfl rfl rfl rfl ?_ | refine wp_getr hk rfl rfl rfl rfl ?_)
    rw [b1, q_nadd]
    refine wp_icleN (u := (sT S).1 + n) (v := 16) hk rfl rfl rfl (by omega) (by omega) (fun f => ?_) (fun f => ?_)
    · rw [if_pos f] at kk
      have loop : ∀ t, t ≤ n → ∀ M1, (∀ i, i ≠ 83 → i ≠ 90 → M1 i = M0 i) → (∀ j, j ≠ 10 → j ≠ 0 → M1 83 j = M0 83 j) → M1 83 10 = nI ((sT S).1 + (n - t)) → (∀ i, i < (sT S).1 + (n - t) → M1 90 i = nI (wrT (sT S) n x i)) → WP 146 24 [some (.ref 83), some (.int (nI n)), some (.long x), none, some (.int (nI t - nI 1))] [.int (nI t - nI 1)] M1 Q := by
        intro t
        induction t with
        | zero =>
          intro ht M1 h1 h2 h3 h4
          refine wp_ifltD (u := 0) (v := 1) hk rfl rfl (by omega) (by omega) (fun _ => ?_) (fun h => absurd h (by omega))
          rw [Nat.sub_zero] at h3 h4
          repeat (first | refine wp_s hk rfl rfl ?_ | refine wp_goto hk rfl ?_ | refine wp_geti hk rfl rfl rfl rfl ?_ | refine wp_getr hk rfl rfl rfl rfl ?_)
          rw [h3]
          refine wp_ir hk rfl rfl (kk _ (I0.text (T := ((sT S).1 + n, wrT (sT S) n x)) (fun i hi => h1 i (fun z => ?_) (fun z => ?_)) h2 h3 h4) (H0.tr (fun i hi => h1 i (by omega) (by omega))))
          · subst z; revert hi; decide
          · subst z; revert hi; decide
        | succ t ih =>
          intro ht M1 h1 h2 h3 h4
          refine wp_ifltD (u := t + 1) (v := 1) hk rfl rfl (by omega) (by omega) (fun h => absurd h (by omega)) (fun _ => ?_)
          rw [q_nsub (Nat.le_add_left 1 t), Nat.add_sub_cancel]
          repeat (first | refine wp_s hk rfl rfl ?_ | refine wp_goto hk rfl ?_ | refine wp_geti hk rfl rfl rfl rfl ?_ | refine wp_getr hk rfl rfl rfl rfl ?_)
          rw [h3, and255, q_nmul]
          refine wp_ast (jx := (sT S).1 + (n - (t + 1))) hk rfl rfl rfl (by omega) ?_
          repeat (first | refine wp_s hk rfl rfl ?_ | refine wp_goto hk rfl ?_ | refine wp_geti hk rfl rfl rfl rfl ?_ | refine wp_getr hk rfl rfl rfl rfl ?_)
          rw [q_up_ne _ _ (show 83 ≠ 90 by decide), h3, q_nadd]
          refine wp_put hk rfl rfl rfl rfl rfl ?_
          repeat (first | refine wp_s hk rfl rfl ?_ | refine wp_goto hk rfl ?_ | refine wp_geti hk rfl rfl rfl rfl ?_ | refine wp_getr hk rfl rfl rfl rfl ?_)
          rw [q_dec2]
          refine ih (by omega) _ (fun i z1 z2 => ?_) (fun j z1 z2 => ?_) ?_ (fun i hi => ?_)
          · rw [q_up_ne _ _ z1, q_up_ne _ _ z2]; exact h1 i z1 z2
          · rw [q_up_at, upd_ne _ _ z1]; exact h2 j z1 z2
          · rw [q_up_at, upd_at]; show nI ((sT S).1 + (n - (t + 1)) + 1) = _; exact congrArg nI (by omega)
          · rw [q_up_ne _ _ (by decide), q_up_at]
            by_cases e : i = (sT S).1 + (n - (t + 1))
            · rw [e, upd_at]
              unfold wrT
              rw [if_neg (by omega), show n - 1 - ((sT S).1 + (n - (t + 1)) - (sT S).1) = t by omega]
              rfl
            · rw [upd_ne _ _ e]; exact h4 i (by omega)
      repeat (first | refine wp_s hk rfl rfl ?_ | refine wp_goto hk rfl ?_ | refine wp_geti hk rfl rfl rfl rfl ?_ | refine wp_getr hk rfl rfl rfl rfl ?_)
      exact loop n (Nat.le_refl _) M0 (fun _ _ _ => rfl) (fun _ _ _ => rfl) (by rw [Nat.sub_self]; exact b1) (fun i hi => by
        rw [Nat.sub_self, Nat.add_zero] at hi
        unfold wrT
        rw [if_pos hi]
        exact b2 i hi)
    · rw [if_neg f] at kk
      repeat (first | refine wp_s hk rfl rfl ?_ | refine wp_goto hk rfl ?_ | refine wp_geti hk rfl rfl rfl rfl ?_ | refine wp_getr hk rfl rfl rfl rfl ?_)
      exact wp_ir hk rfl rfl (kk M0 I0 H0)
  · rw [if_neg (by rw [g]; exact Bool.false_ne_true)] at kk
    repeat (first | refine wp_s hk rfl rfl ?_ | refine wp_goto hk rfl ?_ | refine wp_geti hk rfl rfl rfl rfl ?_ | refine wp_getr hk rfl rfl rfl rfl ?_)
    exact wp_ir hk rfl rfl (kk M0 I0 H0)
def kdW (b : Nat) : Option Nat := if b = 83 then some 0 else if b = 77 then some 1 else if b = 82 then some 2 else if b = 80 then some 3 else if b = 87 then some 4 else none
theorem kdW_le {b k : Nat} (h : kdW b = some k) : k ≤ 4 := by
  unfold kdW at h
  repeat (first | split at h | (cases h; omega) | cases h)
def fgOk (T : Nat × (Nat → Nat)) (i h : Nat) : Bool := decide (i < T.1) && (decide (48 ≤ T.2 i) && decide (T.2 i ≤ 48 + h))
/-- how many figures stand there -/
def fgN (T : Nat × (Nat → Nat)) (i : Nat) : Nat → Nat
  | 0 => 0
  | n + 1 => if fgN T i n = n ∧ fgOk T (i + n) 9 = true then n + 1 else fgN T i n
theorem fgN_le {T : Nat × (Nat → Nat)} {i : Nat} : ∀ {n : Nat}, fgN T i n ≤ n
  | 0 => Nat.le_refl _
  | n + 1 => by
    have := fgN_le (T := T) (i := i) (n := n)
    simp only [fgN]
    split <;> omega
theorem fgN_stop {T : Nat × (Nat → Nat)} {i j : Nat} (h1 : fgN T i j = j) (h2 : fgOk T (i + j) 9 = false) : ∀ {n : Nat}, j < n → fgN T i n = j := by
  intro n
  induction n with
  | zero => intro h; omega
  | succ n ih =>
    intro h
    by_cases e : j = n
    · subst e
      simp only [fgN]
      rw [if_neg (by rw [h2]; simp)]
      exact h1
    · have := ih (by omega)
      simp only [fgN]
      rw [if_neg (by omega)]
      exact this
def paW (T : Nat × (Nat → Nat)) (n i : Nat) : Nat × Bool := if i < T.1 then (match kdW (T.2 i) with
  | none => (i, false)
  | some k => if k = 0 then (if fgOk T (i + 1) 3 = true then (i + 2, true) else (i + 1, false)) else if k = 4 then (i + 1 + fgN T (i + 1) n, decide (fgN T (i + 1) n = n)) else (i + 1, true)) else (i, false)
/-- where a part begins -/
def stP (T : Nat × (Nat → Nat)) (n : Nat) : Nat → Nat
  | 0 => 0
  | p + 1 => (paW T n (stP T n p)).1 + 1
def rdW (T : Nat × (Nat → Nat)) (n : Nat) : Nat → Nat → Option Nat × Nat
  | 0, p => (none, p)
  | q + 1, p => if (paW T n (stP T n p)).2 = true then (if (paW T n (stP T n p)).1 < T.1 then (if T.2 (paW T n (stP T n p)).1 = 47 ∧ ¬ q = 0 then rdW T n q (p + 1) else (some (paW T n (stP T n p)).1, p + 1)) else (none, p + 1)) else (some (paW T n (stP T n p)).1, p)
def kdP (T : Nat × (Nat → Nat)) (n p : Nat) : Nat := (kdW (T.2 (stP T n p))).getD 0
def fgP (T : Nat × (Nat → Nat)) (n p j : Nat) : Nat := if j < n then T.2 (stP T n p + 1 + j) - 48 else 0
def ruT (T : Nat × (Nat → Nat)) (n : Nat) : Ru := ((rdW T n 3 0).2, kdP T n, fun p => T.2 (stP T n p + 1) - 48, fgP T n)
/-- what has been read -/
def rdD (M : MM) (T : Nat × (Nat → Nat)) (n P : Nat) : Prop := ∀ p, p < P → M 91 p = nI (kdP T n p) ∧ (kdP T n p = 0 → M 92 p = nI (T.2 (stP T n p + 1) - 48)) ∧ (kdP T n p = 4 → ∀ j, j < 7 → M 93 (7 * p + j) = nI (fgP T n p j))
theorem isR_nI {b lo hi : Nat} (h0 : b < 2 ^ 31) (h1 : lo < 2 ^ 31) (h2 : hi < 2 ^ 31) : isR (nI b) lo hi = (decide (lo ≤ b) && decide (b ≤ hi)) := by
  unfold isR
  congr 1
  · rw [decide_eq_decide]; exact q_nle h1 h0
  · rw [decide_eq_decide]; exact q_nle h0 h2
theorem m_isFigure {M : MM} {T : Nat × (Nat → Nat)} {i h : Nat} {Q : Option Value → MM → Prop} (h1 : M 83 10 = nI T.1) (h2 : ∀ i, i < T.1 → M 90 i = nI (T.2 i)) (hT : T.1 ≤ 16) (hb : ∀ i, i < T.1 → T.2 i < 256) (hi : i < 100) (hh : h ≤ 9) (kk : Q (some (.int (nI (b2n (fgOk T i h))))) M) : Ca 148 [.ref 83, .int (nI i), .int (nI h)] M Q := by
  have hk : q_cd 148 = kd_X9_isFigure := rfl
  show WP 148 0 [some (.ref 83), some (.int (nI i)), some (.int (nI h))] [] M Q
  unfold fgOk at kk
  repeat (first | refine wp_s hk rfl rfl ?_ | refine wp_goto hk rfl ?_ | refine wp_geti hk rfl rfl rfl rfl ?_ | refine wp_getr hk rfl rfl rfl rfl ?_)
  refine wp_icgeN (u := i) (v := T.1) hk rfl rfl h1 (by omega) (by omega) (fun g => ?_) (fun g => ?_)
  · rw [decide_eq_false (Nat.not_lt.mpr g), Bool.false_and] at kk
    repeat (first | refine wp_s hk rfl rfl ?_ | refine wp_goto hk rfl ?_ | refine wp_geti hk rfl rfl rfl rfl ?_ | refine wp_getr hk rfl rfl rfl rfl ?_)
    exact wp_ir hk rfl rfl kk
  · have g' : i < T.1 := Nat.lt_of_not_le g
    rw [decide_eq_true g', Bool.true_and] at kk
    have b256 := hb i g'
    repeat (first | refine wp_s hk rfl rfl ?_ | refine wp_goto hk rfl ?_ | refine wp_geti hk rfl rfl rfl rfl ?_ | refine wp_getr hk rfl rfl rfl rfl ?_)
    refine wp_ald (jx := i) hk rfl rfl rfl (by omega) ?_
    rw [h2 i g']
    repeat (first | refine wp_s hk rfl rfl ?_ | refine wp_goto hk rfl ?_ | refine wp_geti hk rfl rfl rfl rfl ?_ | refine wp_getr hk rfl rfl rfl rfl ?_)
    rw [q_nadd]
    refine wp_callS hk rfl rfl rfl rfl ?_
    refine m_in ?_
    refine wp_ifeqB hk rfl (congrArg (fun z => nI (b2n z)) ((q_in64v (lo := 48) (hi := 48 + h) (by omega) (by omega)).trans (isR_nI (lo := 48) (hi := 48 + h) (by omega) (by omega) (by omega)))) (fun z => ?_) (fun z => ?_) <;> rw [z] at kk
    · repeat (first | refine wp_s hk rfl rfl ?_ | refine wp_goto hk rfl ?_ | refine wp_geti hk rfl rfl rfl rfl ?_ | refine wp_getr hk rfl rfl rfl rfl ?_)
      exact wp_ir hk rfl rfl kk
    · repeat (first | refine wp_s hk rfl rfl ?_ | refine wp_goto hk rfl ?_ | refine wp_geti hk rfl rfl rfl rfl ?_ | refine wp_getr hk rfl rfl rfl rfl ?_)
      exact wp_ir hk rfl rfl kk
theorem RFr.up {M M1 : MM} {i : Nat} {f : Nat → Int32} (h : RFr M M1) (hi : i ∈ [88, 89, 91, 92, 93, 98, 99, 100]) : RFr M (q_up M1 i f) := h.tr (RFr.kp (ids := [i]) ((Kp.rf _ _).up (by simp)) (by simpa using hi))
theorem RFr.p11 {M M1 : MM} {x : Int32} (h : RFr M M1) : RFr M (q_up M1 83 (upd (M1 83) 11 x)) := h.tr ⟨fun i hi => q_up_ne _ _ (fun e => hi (by rw [e]; simp)), fun j _ z => by rw [q_up_at, upd_ne _ _ z], fun j _ => by rw [q_up_ne _ _ (by decide)]⟩
/-- below a part nothing changes -/
def bel (M M' : MM) (p : Nat) : Prop := (∀ x, x < p → M' 91 x = M 91 x ∧ M' 92 x = M 92 x) ∧ ∀ x, x < 7 * p → M' 93 x = M 93 x
theorem bel.rf (M : MM) (p : Nat) : bel M M p := ⟨fun _ _ => ⟨rfl, rfl⟩, fun _ _ => rfl⟩
theorem bel.u91 {M M' : MM} {p x : Nat} {v : Int32} (h : bel M M' p) (hx : p ≤ x) : bel M (q_up M' 91 (upd (M' 91) x v)) p := ⟨fun y hy => ⟨by rw [q_up_at, upd_ne _ _ (by omega)]; exact (h.1 y hy).1, by rw [q_up_ne _ _ (by decide)]; exact (h.1 y hy).2⟩, fun y hy => by rw [q_up_ne _ _ (by decide)]; exact h.2 y hy⟩
theorem bel.u92 {M M' : MM} {p x : Nat} {v : Int32} (h : bel M M' p) (hx : p ≤ x) : bel M (q_up M' 92 (upd (M' 92) x v)) p := ⟨fun y hy => ⟨by rw [q_up_ne _ _ (by decide)]; exact (h.1 y hy).1, by rw [q_up_at, upd_ne _ _ (by omega)]; exact (h.1 y hy).2⟩, fun y hy => by rw [q_up_ne _ _ (by decide)]; exact h.2 y hy⟩
theorem bel.u93 {M M' : MM} {p x : Nat} {v : Int32} (h : bel M M' p) (hx : 7 * p ≤ x) : bel M (q_up M' 93 (upd (M' 93) x v)) p := ⟨fun y hy => ⟨by rw [q_up_ne _ _ (by decide)]; exact (h.1 y hy).1, by rw [q_up_ne _ _ (by decide)]; exact (h.1 y hy).2⟩, fun y hy => by rw [q_up_at, upd_ne _ _ (by omega)]; exact h.2 y hy⟩
theorem bel.u83 {M M' : MM} {p : Nat} {f : Nat → Int32} (h : bel M M' p) : bel M (q_up M' 83 f) p := ⟨fun y hy => ⟨by rw [q_up_ne _ _ (by decide)]; exact (h.1 y hy).1, by rw [q_up_ne _ _ (by decide)]; exact (h.1 y hy).2⟩, fun y hy => by rw [q_up_ne _ _ (by decide)]; exact h.2 y hy⟩
theorem rdD.bel {M M' : MM} {T : Nat × (Nat → Nat)} {n P : Nat} (h : rdD M T n P) (b : bel M M' P) : rdD M' T n P := fun p hp => ⟨by rw [(b.1 p hp).1]; exact (h p hp).1, fun z => by rw [(b.1 p hp).2]; exact (h p hp).2.1 z, fun z j hj => by rw [b.2 _ (by omega)]; exact (h p hp).2.2 z j hj⟩
theorem paW_le {T : Nat × (Nat → Nat)} {n i : Nat} (hn : n ≤ 7) : (paW T n i).1 ≤ i + 8 := by
  unfold paW
  split
  · split
    · exact Nat.le_add_right _ _
    · split
      · split <;> simp
      · split
        · have := fgN_le (T := T) (i := i + 1) (n := n)
          show i + 1 + fgN T (i + 1) n ≤ i + 8
          omega
        · simp
  · exact Nat.le_add_right _ _
def rdH (Q : Option Value → MM → Prop) (T : Nat × (Nat → Nat)) (n : Nat) (M : MM) (q p : Nat) : Prop := ∀ M1 x3 x4 x5, RFr M M1 → M1 83 11 = nI p → rdD M1 T n p → stP T n p ≤ T.1 → rdW T n (q + 1) p = rdW T n 3 0 → WP 149 8 [some (.ref 83), some (.int (nI (stP T n p))), some (.int (nI 1)), x3, x4, x5] [.int (nI 1)] M1 Q
theorem m_readStep {M : MM} {T : Nat × (Nat → Nat)} {n q p : Nat} {Q : Option Value → MM → Prop} (ho1 : 1 ≤ n) (ho7 : n ≤ 7) (hT : T.1 ≤ 16) (hB : ∀ i, i < T.1 → T.2 i < 256)
    (A1 : ∀ M', RFr M M' → M' 83 1 = nI n) (A2 : ∀ M', RFr M M' → M' 83 10 = nI T.1) (A3 : ∀ M', RFr M M' → ∀ i, i < T.1 → M' 90 i = nI (T.2 i))
    (kk : ∀ M', RFr M M' → ((rdW T n 3 0).1 = none → M' 83 11 = nI (rdW T n 3 0).2 ∧ rdD M' T n (rdW T n 3 0).2) → Q (some (.int (fwV (rdW T n 3 0).1))) M')
    (hpq : p + (q + 1) = 3) (ihq : ∀ q', q = q' + 1 → rdH Q T n M q' (p + 1)) : rdH Q T n M q p := by
  intro M1 x3 x4 x5 F1 h11 hD hle hrd
  have hk : q_cd 149 = kd_X9_read := rfl
  obtain ⟨i, hi⟩ : ∃ i, i = stP T n p := ⟨_, rfl⟩
  rw [← hi] at hle ⊢
  have hrd2 : rdW T n 3 0 = if (paW T n i).2 = true then (if (paW T n i).1 < T.1 then (if T.2 (paW T n i).1 = 47 ∧ ¬ q = 0 then rdW T n q (p + 1) else (some (paW T n i).1, p + 1)) else (none, p + 1)) else (some (paW T n i).1, p) := by rw [← hrd, hi]; rfl
  have ple := paW_le (T := T) (n := n) (i := i) ho7
  have bad : ∀ e M2, paW T n i = (e, false) → RFr M M2 → Q (some (.int (nI e))) M2 := by
    intro e M2 h F
    rw [h] at hrd2
    have h3 : rdW T n 3 0 = (some e, p) := hrd2
    have := kk M2 F
    rw [h3] at this
    exact this (fun z => by cases z)
  have fin : ∀ M2 e x3 x4 x5, paW T n i = (e, true) → RFr M M2 → M2 83 11 = nI p → rdD M2 T n (p + 1) → WP 149 132 [some (.ref 83), some (.int (nI e)), some (.int (nI 1)), x3, x4, x5] [] M2 Q := by
    intro M2 e x3 x4 x5 h F h11 hD
    rw [h] at hrd2 ple
    simp only [if_true] at hrd2
    have ple' : e ≤ i + 8 := ple
    repeat (first | refine wp_s hk rfl rfl ?_ | refine wp_goto hk rfl ?_ | refine wp_geti hk rfl rfl rfl rfl ?_ | refine wp_getr hk rfl rfl rfl rfl ?_)
    rw [h11, q_nadd]
    refine wp_put hk rfl rfl rfl rfl rfl ?_
    have F3 := F.p11 (x := nI (p + 1))
    have e11 : (q_up M2 83 (upd (M2 83) 11 (nI (p + 1)))) 83 11 = nI (p + 1) := by rw [q83, if_pos rfl]
    have D3 : rdD (q_up M2 83 (upd (M2 83) 11 (nI (p + 1)))) T n (p + 1) := hD.bel (bel.rf _ _).u83
    change WP 149 _ _ _ (q_up M2 83 (upd (M2 83) 11 (nI (p + 1)))) _
    generalize q_up M2 83 (upd (M2 83) 11 (nI (p + 1))) = M3 at F3 e11 D3 ⊢
    have ret : ∀ x2, ¬ (T.2 e = 47 ∧ ¬ q = 0) → e < T.1 → WP 149 158 [some (.ref 83), some (.int (nI e)), x2, x3, x4, x5] [] M3 Q := by
      intro x2 z1 z2
      repeat (first | refine wp_s hk rfl rfl ?_ | refine wp_goto hk rfl ?_ | refine wp_geti hk rfl rfl rfl rfl ?_ | refine wp_getr hk rfl rfl rfl rfl ?_)
      refine wp_ir hk rfl rfl ?_
      have h3 : rdW T n 3 0 = (some e, p + 1) := by rw [hrd2, if_pos z2, if_neg z1]
      have := kk M3 F3
      rw [h3] at this
      exact this (fun z => by cases z)
    repeat (first | refine wp_s hk rfl rfl ?_ | refine wp_goto hk rfl ?_ | refine wp_geti hk rfl rfl rfl rfl ?_ | refine wp_getr hk rfl rfl rfl rfl ?_)
    refine wp_icgeN (u := e) (v := T.1) hk rfl rfl (A2 M3 F3) (by omega) (by omega) (fun g => ?_) (fun g => ?_)
    · repeat (first | refine wp_s hk rfl rfl ?_ | refine wp_goto hk rfl ?_ | refine wp_geti hk rfl rfl rfl rfl ?_ | refine wp_getr hk rfl rfl rfl rfl ?_)
      refine wp_ifeqB (u := false) hk rfl rfl (fun _ => ?_) (fun z => by cases z)
      repeat (first | refine wp_s hk rfl rfl ?_ | refine wp_goto hk rfl ?_ | refine wp_geti hk rfl rfl rfl rfl ?_ | refine wp_getr hk rfl rfl rfl rfl ?_)
      refine wp_ifeqB (u := false) hk rfl rfl (fun _ => ?_) (fun z => by cases z)
      repeat (first | refine wp_s hk rfl rfl ?_ | refine wp_goto hk rfl ?_ | refine wp_geti hk rfl rfl rfl rfl ?_ | refine wp_getr hk rfl rfl rfl rfl ?_)
      refine wp_ifeqB (u := false) hk rfl rfl (fun _ => ?_) (fun z => by cases z)
      repeat (first | refine wp_s hk rfl rfl ?_ | refine wp_goto hk rfl ?_ | refine wp_geti hk rfl rfl rfl rfl ?_ | refine wp_getr hk rfl rfl rfl rfl ?_)
      refine wp_ir hk rfl rfl ?_
      have h3 : rdW T n 3 0 = (none, p + 1) := by rw [hrd2, if_neg (Nat.not_lt.mpr g)]
      have := kk M3 F3
      rw [h3] at this
      exact this (fun _ => ⟨e11, D3⟩)
    · have g' : e < T.1 := Nat.lt_of_not_le g
      have b256 := hB e g'
      repeat (first | refine wp_s hk rfl rfl ?_ | refine wp_goto hk rfl ?_ | refine wp_geti hk rfl rfl rfl rfl ?_ | refine wp_getr hk rfl rfl rfl rfl ?_)
      refine wp_ifeqB (u := true) hk rfl rfl (fun z => by cases z) (fun _ => ?_)
      repeat (first | refine wp_s hk rfl rfl ?_ | refine wp_goto hk rfl ?_ | refine wp_geti hk rfl rfl rfl rfl ?_ | refine wp_getr hk rfl rfl rfl rfl ?_)
      refine wp_ald (jx := e) hk rfl rfl rfl (by omega) ?_
      rw [A3 M3 F3 e g']
      repeat (first | refine wp_s hk rfl rfl ?_ | refine wp_goto hk rfl ?_ | refine wp_geti hk rfl rfl rfl rfl ?_ | refine wp_getr hk rfl rfl rfl rfl ?_)
      refine wp_icneN (u := T.2 e) (v := 47) hk rfl rfl rfl (by omega) (by omega) (fun z => ret _ (fun y => z y.1) g') (fun z => ?_)
      have z' : T.2 e = 47 := Classical.not_not.mp z
      repeat (first | refine wp_s hk rfl rfl ?_ | refine wp_goto hk rfl ?_ | refine wp_geti hk rfl rfl rfl rfl ?_ | refine wp_getr hk rfl rfl rfl rfl ?_)
      refine wp_icneN (u := p + 1) (v := 3) hk rfl e11 rfl (by omega) (by omega) (fun y => ?_) (fun y => ?_)
      · repeat (first | refine wp_s hk rfl rfl ?_ | refine wp_goto hk rfl ?_ | refine wp_geti hk rfl rfl rfl rfl ?_ | refine wp_getr hk rfl rfl rfl rfl ?_)
        refine wp_ifeqB (u := true) hk rfl rfl (fun z => by cases z) (fun _ => ?_)
        repeat (first | refine wp_s hk rfl rfl ?_ | refine wp_goto hk rfl ?_ | refine wp_geti hk rfl rfl rfl rfl ?_ | refine wp_getr hk rfl rfl rfl rfl ?_)
        rw [q_nadd e 1]
        obtain ⟨q', hq'⟩ : ∃ q', q = q' + 1 := ⟨q - 1, by omega⟩
        have h3 : rdW T n 3 0 = rdW T n q (p + 1) := by rw [hrd2, if_pos g', if_pos ⟨z', by omega⟩]
        have es : stP T n (p + 1) = e + 1 := by
          show (paW T n (stP T n p)).1 + 1 = e + 1
          rw [← hi, h]
        have := ihq q' hq' M3 x3 x4 x5 F3 e11 D3 (by rw [es]; omega) (by rw [h3, hq'])
        rw [es] at this
        exact this
      · exact ret _ (fun w => by omega) g'
  have f114 : ∀ M3 e x5 k, kdW (T.2 i) = some k → paW T n i = (e, true) → RFr M M3 → M3 83 11 = nI p → bel M1 M3 p → M3 91 p = nI k → (k = 0 → M3 92 p = nI (T.2 (i + 1) - 48)) → (k = 4 → ∀ j, j < n → M3 93 (7 * p + j) = nI (T.2 (i + 1 + j) - 48)) → WP 149 114 [some (.ref 83), some (.int (nI e)), some (.int (nI 1)), some (.int (nI (T.2 i))), some (.int (nI k)), x5] [] M3 Q := by
    intro M3 e x5 k hkd hpa F3 h11 hbel e91 e92 e93
    have hkp : kdP T n p = k := by unfold kdP; rw [← hi, hkd]; rfl
    have loop := q_dn (n := 7) (P := fun j => n ≤ j → ∀ M4, RFr M M4 → M4 83 11 = nI p → bel M1 M4 p → M4 91 p = nI k → (k = 0 → M4 92 p = nI (T.2 (i + 1) - 48)) → (k = 4 → ∀ j', j' < j → M4 93 (7 * p + j') = nI (fgP T n p j')) → WP 149 119 [some (.ref 83), some (.int (nI e)), some (.int (nI 1)), some (.int (nI (T.2 i))), some (.int (nI k)), some (.int (nI j))] [.int (nI 7), .int (nI j)] M4 Q) (by
      intro _ M4 F4 h11 hbel e91 e92 e93
      refine wp_icgeN (u := 7) (v := 7) hk rfl rfl rfl (by omega) (by omega) (fun _ => ?_) (fun z => absurd z (by omega))
      refine fin M4 e _ _ _ hpa F4 h11 (fun p' hp' => ?_)
      by_cases ep : p' = p
      · subst ep
        refine ⟨by rw [hkp]; exact e91, fun z => ?_, fun z j hj => e93 (by rw [← hkp]; exact z) j hj⟩
        rw [← hi]
        exact e92 (by rw [← hkp]; exact z)
      · exact (hD.bel hbel) p' (by omega)) (by
      intro j hj ih hnj M4 F4 h11 hbel e91 e92 e93
      refine wp_icgeN (u := j) (v := 7) hk rfl rfl rfl (by omega) (by omega) (fun z => absurd z (by omega)) (fun _ => ?_)
      repeat (first | refine wp_s hk rfl rfl ?_ | refine wp_goto hk rfl ?_ | refine wp_geti hk rfl rfl rfl rfl ?_ | refine wp_getr hk rfl rfl rfl rfl ?_)
      rw [h11]
      refine wp_ast (jx := 7 * p + j) hk rfl rfl (by simp only [q_nadd, q_nmul]) (by omega) ?_
      repeat (first | refine wp_s hk rfl rfl ?_ | refine wp_goto hk rfl ?_ | refine wp_geti hk rfl rfl rfl rfl ?_ | refine wp_getr hk rfl rfl rfl rfl ?_)
      rw [q_nadd j 1]
      refine ih (by omega) _ (F4.up (by decide)) (by rw [q_up_ne _ _ (by decide)]; exact h11) (hbel.u93 (by omega)) (by rw [q_up_ne _ _ (by decide)]; exact e91) (fun z => by rw [q_up_ne _ _ (by decide)]; exact e92 z) (fun z j' hj' => ?_)
      rw [q_up_at]
      by_cases e : j' = j
      · subst e
        rw [upd_at]
        unfold fgP
        rw [if_neg (by omega)]
      · rw [upd_ne _ _ (by omega)]; exact e93 z j' (by omega))
    repeat (first | refine wp_s hk rfl rfl ?_ | refine wp_goto hk rfl ?_ | refine wp_geti hk rfl rfl rfl rfl ?_ | refine wp_getr hk rfl rfl rfl rfl ?_)
    rw [A1 M3 F3]
    exact loop n ho7 (Nat.le_refl _) M3 F3 h11 hbel e91 e92 (fun z j hj => by
      unfold fgP
      rw [if_pos hj, ← hi]
      exact e93 z j hj)
  refine wp_ifeqB (u := true) hk rfl rfl (fun z => by cases z) (fun _ => ?_)
  repeat (first | refine wp_s hk rfl rfl ?_ | refine wp_goto hk rfl ?_ | refine wp_geti hk rfl rfl rfl rfl ?_ | refine wp_getr hk rfl rfl rfl rfl ?_)
  refine wp_icneN (u := i) (v := T.1) hk rfl rfl (A2 M1 F1) (by omega) (by omega) (fun g => ?_) (fun g => ?_)
  · have g' : i < T.1 := by omega
    have b256 := hB i g'
    repeat (first | refine wp_s hk rfl rfl ?_ | refine wp_goto hk rfl ?_ | refine wp_geti hk rfl rfl rfl rfl ?_ | refine wp_getr hk rfl rfl rfl rfl ?_)
    refine wp_ald (jx := i) hk rfl rfl rfl (by omega) ?_
    rw [A3 M1 F1 i g']
    have none_ : kdW (T.2 i) = none → WP 149 46 [some (.ref 83), some (.int (nI i)), some (.int (nI 1)), some (.int (nI (T.2 i))), x4, x5] [.int NON] M1 Q := by
      intro z
      repeat (first | refine wp_s hk rfl rfl ?_ | refine wp_goto hk rfl ?_ | refine wp_geti hk rfl rfl rfl rfl ?_ | refine wp_getr hk rfl rfl rfl rfl ?_)
      refine wp_icne hk rfl (fun y => absurd rfl y) (fun _ => ?_)
      repeat (first | refine wp_s hk rfl rfl ?_ | refine wp_goto hk rfl ?_ | refine wp_geti hk rfl rfl rfl rfl ?_ | refine wp_getr hk rfl rfl rfl rfl ?_)
      exact wp_ir hk rfl rfl (bad i M1 (by unfold paW; rw [if_pos g', z]) F1)
    have some_ : ∀ k, kdW (T.2 i) = some k → WP 149 46 [some (.ref 83), some (.int (nI i)), some (.int (nI 1)), some (.int (nI (T.2 i))), x4, x5] [.int (nI k)] M1 Q := by
      intro k hkd
      have k4 := kdW_le hkd
      repeat (first | refine wp_s hk rfl rfl ?_ | refine wp_goto hk rfl ?_ | refine wp_geti hk rfl rfl rfl rfl ?_ | refine wp_getr hk rfl rfl rfl rfl ?_)
      refine wp_icne hk rfl (fun _ => ?_) (fun y => absurd (Classical.not_not.mp y) (q_non k (by omega)))
      repeat (first | refine wp_s hk rfl rfl ?_ | refine wp_goto hk rfl ?_ | refine wp_geti hk rfl rfl rfl rfl ?_ | refine wp_getr hk rfl rfl rfl rfl ?_)
      rw [h11]
      refine wp_ast (jx := p) hk rfl rfl rfl (by omega) ?_
      have F2 : RFr M (q_up M1 91 (upd (M1 91) p (nI k))) := F1.up (by decide)
      have h11' : (q_up M1 91 (upd (M1 91) p (nI k))) 83 11 = nI p := by rw [q_up_ne _ _ (by decide)]; exact h11
      have e91 : (q_up M1 91 (upd (M1 91) p (nI k))) 91 p = nI k := by rw [q_up_at, upd_at]
      have b2 : bel M1 (q_up M1 91 (upd (M1 91) p (nI k))) p := (bel.rf _ _).u91 (Nat.le_refl _)
      generalize q_up M1 91 (upd (M1 91) p (nI k)) = M2 at F2 h11' e91 b2 ⊢
      repeat (first | refine wp_s hk rfl rfl ?_ | refine wp_goto hk rfl ?_ | refine wp_geti hk rfl rfl rfl rfl ?_ | refine wp_getr hk rfl rfl rfl rfl ?_)
      rw [q_nadd i 1]
      refine wp_ifneN (u := k) hk rfl rfl (by omega) (fun k0 => ?_) (fun k0 => ?_)
      · by_cases k4 : k = 4
        · subst k4
          have hpa : paW T n i = (i + 1 + fgN T (i + 1) n, decide (fgN T (i + 1) n = n)) := by
            unfold paW
            rw [if_pos g', hkd]
            rfl
          have loop := q_dn (n := n) (P := fun j => ∀ M3, RFr M M3 → M3 83 11 = nI p → bel M1 M3 p → M3 91 p = nI 4 → fgN T (i + 1) j = j → (∀ j', j' < j → M3 93 (7 * p + j') = nI (T.2 (i + 1 + j') - 48)) → WP 149 85 [some (.ref 83), some (.int (nI (i + 1 + j))), some (.int (nI 1)), some (.int (nI (T.2 i))), some (.int (nI 4)), some (.int (nI j))] [.int (M3 83 1), .int (nI j)] M3 Q) (by
            intro M3 F3 h11 hbel e91 hfg e93
            refine wp_icgeN (u := n) (v := n) hk rfl rfl (A1 M3 F3) (by omega) (by omega) (fun _ => ?_) (fun z => absurd z (by omega))
            exact f114 M3 _ _ 4 hkd (by rw [hpa, hfg, decide_eq_true rfl]) F3 h11 hbel e91 (fun z => by cases z) (fun _ => e93)) (by
            intro j hj ih M3 F3 h11 hbel e91 hfg e93
            refine wp_icgeN (u := j) (v := n) hk rfl rfl (A1 M3 F3) (by omega) (by omega) (fun z => absurd z (by omega)) (fun _ => ?_)
            repeat (first | refine wp_s hk rfl rfl ?_ | refine wp_goto hk rfl ?_ | refine wp_geti hk rfl rfl rfl rfl ?_ | refine wp_getr hk rfl rfl rfl rfl ?_)
            refine wp_icneN (u := 4) (v := 4) hk rfl rfl rfl (by omega) (by omega) (fun z => absurd rfl z) (fun _ => ?_)
            repeat (first | refine wp_s hk rfl rfl ?_ | refine wp_goto hk rfl ?_ | refine wp_geti hk rfl rfl rfl rfl ?_ | refine wp_getr hk rfl rfl rfl rfl ?_)
            change WP 149 _ _ [.int (nI 9), _, _] _ _
            refine wp_callV hk rfl rfl rfl rfl rfl rfl ?_
            refine m_isFigure (A2 M3 F3) (A3 M3 F3) hT hB (by omega) (by omega) ?_
            refine wp_ifneB hk rfl rfl (fun y => ?_) (fun y => ?_)
            · have y' := y
              simp only [fgOk, Bool.and_eq_true, decide_eq_true_eq] at y'
              obtain ⟨y1, y2, y3⟩ := y'
              repeat (first | refine wp_s hk rfl rfl ?_ | refine wp_goto hk rfl ?_ | refine wp_geti hk rfl rfl rfl rfl ?_ | refine wp_getr hk rfl rfl rfl rfl ?_)
              rw [h11]
              refine wp_ald (jx := i + 1 + j) hk rfl rfl rfl (by omega) ?_
              rw [A3 M3 F3 _ y1]
              repeat (first | refine wp_s hk rfl rfl ?_ | refine wp_goto hk rfl ?_ | refine wp_geti hk rfl rfl rfl rfl ?_ | refine wp_getr hk rfl rfl rfl rfl ?_)
              rw [q_nsub y2]
              refine wp_ast (jx := 7 * p + j) hk rfl rfl (by simp only [q_nadd, q_nmul]) (by omega) ?_
              repeat (first | refine wp_s hk rfl rfl ?_ | refine wp_goto hk rfl ?_ | refine wp_geti hk rfl rfl rfl rfl ?_ | refine wp_getr hk rfl rfl rfl rfl ?_)
              rw [q_nadd j 1, q_nadd (i + 1 + j) 1]
              refine ih _ (F3.up (by decide)) (by rw [q_up_ne _ _ (by decide)]; exact h11) (hbel.u93 (by omega)) (by rw [q_up_ne _ _ (by decide)]; exact e91) (by simp only [fgN]; rw [if_pos ⟨hfg, y⟩]) (fun j' hj' => ?_)
              rw [q_up_at]
              by_cases e : j' = j
              · subst e
                rw [upd_at]
              · rw [upd_ne _ _ (by omega)]; exact e93 j' (by omega)
            · have hs := fgN_stop hfg y hj
              repeat (first | refine wp_s hk rfl rfl ?_ | refine wp_goto hk rfl ?_ | refine wp_geti hk rfl rfl rfl rfl ?_ | refine wp_getr hk rfl rfl rfl rfl ?_)
              exact wp_ir hk rfl rfl (bad _ M3 (by rw [hpa, hs, decide_eq_false (by omega)]) F3))
          repeat (first | refine wp_s hk rfl rfl ?_ | refine wp_goto hk rfl ?_ | refine wp_geti hk rfl rfl rfl rfl ?_ | refine wp_getr hk rfl rfl rfl rfl ?_)
          exact loop 0 (Nat.zero_le _) M2 F2 h11' b2 e91 rfl (fun j' hj' => absurd hj' (Nat.not_lt_zero _))
        · have hpa : paW T n i = (i + 1, true) := by
            unfold paW
            rw [if_pos g', hkd]
            show (if k = 0 then _ else if k = 4 then _ else (i + 1, true)) = (i + 1, true)
            rw [if_neg k0, if_neg k4]
          repeat (first | refine wp_s hk rfl rfl ?_ | refine wp_goto hk rfl ?_ | refine wp_geti hk rfl rfl rfl rfl ?_ | refine wp_getr hk rfl rfl rfl rfl ?_)
          refine wp_icgeN (u := 0) (v := n) hk rfl rfl (A1 M2 F2) (by omega) (by omega) (fun z => absurd z (by omega)) (fun _ => ?_)
          repeat (first | refine wp_s hk rfl rfl ?_ | refine wp_goto hk rfl ?_ | refine wp_geti hk rfl rfl rfl rfl ?_ | refine wp_getr hk rfl rfl rfl rfl ?_)
          refine wp_icneN (u := k) (v := 4) hk rfl rfl rfl (by omega) (by omega) (fun _ => ?_) (fun z => absurd k4 z)
          exact f114 M2 _ _ k hkd hpa F2 h11' b2 e91 (fun z => absurd z k0) (fun z => absurd z k4)
      · have k0' : k = 0 := Classical.not_not.mp k0
        subst k0'
        have hpa : paW T n i = if fgOk T (i + 1) 3 = true then (i + 2, true) else (i + 1, false) := by
          unfold paW
          rw [if_pos g', hkd]
          rfl
        repeat (first | refine wp_s hk rfl rfl ?_ | refine wp_goto hk rfl ?_ | refine wp_geti hk rfl rfl rfl rfl ?_ | refine wp_getr hk rfl rfl rfl rfl ?_)
        change WP 149 _ _ [.int (nI 3), _, _] _ _
        refine wp_callV hk rfl rfl rfl rfl rfl rfl ?_
        refine m_isFigure (A2 M2 F2) (A3 M2 F2) hT hB (by omega) (by omega) ?_
        refine wp_ifneB hk rfl rfl (fun y => ?_) (fun y => ?_)
        · have y' := y
          simp only [fgOk, Bool.and_eq_true, decide_eq_true_eq] at y'
          obtain ⟨y1, y2, y3⟩ := y'
          rw [if_pos y] at hpa
          repeat (first | refine wp_s hk rfl rfl ?_ | refine wp_goto hk rfl ?_ | refine wp_geti hk rfl rfl rfl rfl ?_ | refine wp_getr hk rfl rfl rfl rfl ?_)
          rw [h11']
          refine wp_ald (jx := i + 1) hk rfl rfl rfl (by omega) ?_
          rw [A3 M2 F2 _ y1]
          repeat (first | refine wp_s hk rfl rfl ?_ | refine wp_goto hk rfl ?_ | refine wp_geti hk rfl rfl rfl rfl ?_ | refine wp_getr hk rfl rfl rfl rfl ?_)
          rw [q_nsub y2]
          refine wp_ast (jx := p) hk rfl rfl rfl (by omega) ?_
          have F3 : RFr M (q_up M2 92 (upd (M2 92) p (nI (T.2 (i + 1) - 48)))) := F2.up (by decide)
          have h11'' : (q_up M2 92 (upd (M2 92) p (nI (T.2 (i + 1) - 48)))) 83 11 = nI p := by rw [q_up_ne _ _ (by decide)]; exact h11'
          have e91' : (q_up M2 92 (upd (M2 92) p (nI (T.2 (i + 1) - 48)))) 91 p = nI 0 := by rw [q_up_ne _ _ (by decide)]; exact e91
          have e92 : (q_up M2 92 (upd (M2 92) p (nI (T.2 (i + 1) - 48)))) 92 p = nI (T.2 (i + 1) - 48) := by rw [q_up_at, upd_at]
          have b3 : bel M1 (q_up M2 92 (upd (M2 92) p (nI (T.2 (i + 1) - 48)))) p := b2.u92 (Nat.le_refl _)
          change WP 149 _ _ _ (q_up M2 92 (upd (M2 92) p (nI (T.2 (i + 1) - 48)))) _
          generalize q_up M2 92 (upd (M2 92) p (nI (T.2 (i + 1) - 48))) = M3 at F3 h11'' e91' e92 b3 ⊢
          repeat (first | refine wp_s hk rfl rfl ?_ | refine wp_goto hk rfl ?_ | refine wp_geti hk rfl rfl rfl rfl ?_ | refine wp_getr hk rfl rfl rfl rfl ?_)
          rw [q_nadd (i + 1) 1]
          refine wp_icgeN (u := 0) (v := n) hk rfl rfl (A1 M3 F3) (by omega) (by omega) (fun z => absurd z (by omega)) (fun _ => ?_)
          repeat (first | refine wp_s hk rfl rfl ?_ | refine wp_goto hk rfl ?_ | refine wp_geti hk rfl rfl rfl rfl ?_ | refine wp_getr hk rfl rfl rfl rfl ?_)
          refine wp_icneN (u := 0) (v := 4) hk rfl rfl rfl (by omega) (by omega) (fun _ => ?_) (fun z => absurd (show ¬ (0 = 4) by decide) z)
          exact f114 M3 _ _ 0 hkd hpa F3 h11'' b3 e91' (fun _ => e92) (fun z => by cases z)
        · rw [if_neg (by rw [y]; exact Bool.false_ne_true)] at hpa
          repeat (first | refine wp_s hk rfl rfl ?_ | refine wp_goto hk rfl ?_ | refine wp_geti hk rfl rfl rfl rfl ?_ | refine wp_getr hk rfl rfl rfl rfl ?_)
          exact wp_ir hk rfl rfl (bad _ M2 hpa F2)
    unfold kdW at none_ some_
    repeat (first | refine wp_s hk rfl rfl ?_ | refine wp_goto hk rfl ?_ | refine wp_geti hk rfl rfl rfl rfl ?_ | refine wp_getr hk rfl rfl rfl rfl ?_)
    refine wp_icneN (u := T.2 i) (v := 83) hk rfl rfl rfl (by omega) (by omega) (fun n1 => ?_) (fun n1 => ?_)
    · rw [if_neg n1] at none_ some_
      repeat (first | refine wp_s hk rfl rfl ?_ | refine wp_goto hk rfl ?_ | refine wp_geti hk rfl rfl rfl rfl ?_ | refine wp_getr hk rfl rfl rfl rfl ?_)
      refine wp_icneN (u := T.2 i) (v := 77) hk rfl rfl rfl (by omega) (by omega) (fun n2 => ?_) (fun n2 => ?_)
      · rw [if_neg n2] at none_ some_
        repeat (first | refine wp_s hk rfl rfl ?_ | refine wp_goto hk rfl ?_ | refine wp_geti hk rfl rfl rfl rfl ?_ | refine wp_getr hk rfl rfl rfl rfl ?_)
        refine wp_icneN (u := T.2 i) (v := 82) hk rfl rfl rfl (by omega) (by omega) (fun n3 => ?_) (fun n3 => ?_)
        · rw [if_neg n3] at none_ some_
          repeat (first | refine wp_s hk rfl rfl ?_ | refine wp_goto hk rfl ?_ | refine wp_geti hk rfl rfl rfl rfl ?_ | refine wp_getr hk rfl rfl rfl rfl ?_)
          refine wp_icneN (u := T.2 i) (v := 80) hk rfl rfl rfl (by omega) (by omega) (fun n4 => ?_) (fun n4 => ?_)
          · rw [if_neg n4] at none_ some_
            repeat (first | refine wp_s hk rfl rfl ?_ | refine wp_goto hk rfl ?_ | refine wp_geti hk rfl rfl rfl rfl ?_ | refine wp_getr hk rfl rfl rfl rfl ?_)
            refine wp_icneN (u := T.2 i) (v := 87) hk rfl rfl rfl (by omega) (by omega) (fun n5 => ?_) (fun n5 => ?_)
            · rw [if_neg n5] at none_
              refine wp_s hk rfl rfl ?_
              exact none_ rfl
            · rw [if_pos (Classical.not_not.mp n5)] at some_
              refine wp_s hk rfl rfl ?_
              refine wp_goto hk rfl ?_
              exact some_ 4 rfl
          · rw [if_pos (Classical.not_not.mp n4)] at some_
            refine wp_s hk rfl rfl ?_
            refine wp_goto hk rfl ?_
            exact some_ 3 rfl
        · rw [if_pos (Classical.not_not.mp n3)] at some_
          refine wp_s hk rfl rfl ?_
          refine wp_goto hk rfl ?_
          exact some_ 2 rfl
      · rw [if_pos (Classical.not_not.mp n2)] at some_
        refine wp_s hk rfl rfl ?_
        refine wp_goto hk rfl ?_
        exact some_ 1 rfl
    · rw [if_pos (Classical.not_not.mp n1)] at some_
      refine wp_s hk rfl rfl ?_
      refine wp_goto hk rfl ?_
      exact some_ 0 rfl
  · repeat (first | refine wp_s hk rfl rfl ?_ | refine wp_goto hk rfl ?_ | refine wp_geti hk rfl rfl rfl rfl ?_ | refine wp_getr hk rfl rfl rfl rfl ?_)
    exact wp_ir hk rfl rfl (bad i M1 (by unfold paW; rw [if_neg (by omega)]) F1)
theorem m_read {M : MM} {S : St} {Q : Option Value → MM → Prop} (I : RefInv M S) (O : StOK S) (kk : ∀ M', RFr M M' → ((rdW (sT S) (vn (sV S)) 3 0).1 = none → M' 83 11 = nI (rdW (sT S) (vn (sV S)) 3 0).2 ∧ rdD M' (sT S) (vn (sV S)) (rdW (sT S) (vn (sV S)) 3 0).2) → Q (some (.int (fwV (rdW (sT S) (vn (sV S)) 3 0).1))) M') : Ca 149 [.ref 83] M Q := by
  have ho7 := O.1.2.1
  have ho1 := O.1.1
  have hT := O.2.1.1
  have hB := O.2.1.2
  have hk : q_cd 149 = kd_X9_read := rfl
  show WP 149 0 [some (.ref 83), none, none, none, none, none] [] M Q
  have A1 : ∀ M', RFr M M' → M' 83 1 = nI (vn (sV S)) := fun M' F => (F.2.1 1 (by decide) (by decide)).trans I.1.1
  have A2 : ∀ M', RFr M M' → M' 83 10 = nI (sT S).1 := fun M' F => (F.2.1 10 (by decide) (by decide)).trans I.2.1.1
  have A3 : ∀ M', RFr M M' → ∀ i, i < (sT S).1 → M' 90 i = nI ((sT S).2 i) := fun M' F i hi => by rw [F.1 90 (by decide)]; exact I.2.1.2 i hi
  generalize sT S = T at hT hB kk A2 A3
  generalize vn (sV S) = n at ho7 ho1 kk A1
  have head : ∀ q p, p + (q + 1) = 3 → rdH Q T n M q p := by
    intro q
    induction q with
    | zero => intro p hp; exact m_readStep ho1 ho7 hT hB A1 A2 A3 kk hp (fun q' z => by cases z)
    | succ q ih => intro p hp; exact m_readStep ho1 ho7 hT hB A1 A2 A3 kk hp (fun q' z => by cases z; exact ih (p + 1) (by omega))
  repeat (first | refine wp_s hk rfl rfl ?_ | refine wp_goto hk rfl ?_ | refine wp_geti hk rfl rfl rfl rfl ?_ | refine wp_getr hk rfl rfl rfl rfl ?_)
  refine wp_put hk rfl rfl rfl rfl rfl ?_
  repeat (first | refine wp_s hk rfl rfl ?_ | refine wp_goto hk rfl ?_ | refine wp_geti hk rfl rfl rfl rfl ?_ | refine wp_getr hk rfl rfl rfl rfl ?_)
  exact head 2 0 rfl _ _ _ _ (RFr.rf M).p11 (by rw [q83, if_pos rfl]) (fun p hp => absurd hp (Nat.not_lt_zero _)) (Nat.zero_le _) rfl
