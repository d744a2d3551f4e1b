/-! the class's own calls: thirds -/
theorem sum4 (G : Nat → Nat → Nat) : ∀ n, sumN (fun k => G (k / 4) (k % 4)) (4 * n) = sumN (fun q => sumN (G q) 4) n
  | 0 => rfl
  | n + 1 => by
    have e1 : sumN (fun k => G (k / 4) (k % 4)) (4 * (n + 1)) = sumN (fun k => G (k / 4) (k % 4)) (4 * n) + G ((4 * n) / 4) ((4 * n) % 4) + G ((4 * n + 1) / 4) ((4 * n + 1) % 4) + G ((4 * n + 2) / 4) ((4 * n + 2) % 4) + G ((4 * n + 3) / 4) ((4 * n + 3) % 4) := rfl
    have e2 : sumN (fun q => sumN (G q) 4) (n + 1) = sumN (fun q => sumN (G q) 4) n + (0 + G n 0 + G n 1 + G n 2 + G n 3) := rfl
    rw [e1, e2, sum4 G n, show (4 * n) / 4 = n by omega, show (4 * n) % 4 = 0 by omega, show (4 * n + 1) / 4 = n by omega, show (4 * n + 1) % 4 = 1 by omega, show (4 * n + 2) / 4 = n by omega, show (4 * n + 2) % 4 = 2 by omega, show (4 * n + 3) / 4 = n by omega, show (4 * n + 3) % 4 = 3 by omega]
    omega
theorem sum64 (F : Nat → Nat → Nat → Nat) : sumN (fun k => F (k / 16) (k / 4 % 4) (k % 4)) 64 = sumN (fun a => sumN (fun b => sumN (F a b) 4) 4) 4 := by
  have h1 := sum4 (fun q c => F (q / 4) (q % 4) c) 16
  have h2 := sum4 (fun a b => sumN (F a b) 4) 4
  rw [← h2]
  show _ = sumN (fun k => sumN (F (k / 4) (k % 4)) 4) 16
  rw [← h1]
  refine sumN_congr (fun k _ => ?_)
  rw [show k / 4 / 4 = k / 16 by omega]
theorem sumN_cut {f : Nat → Nat} {m : Nat} (hm : m ≤ 4) (h : ∀ j, m ≤ j → f j = 0) : sumN f 4 = sumN f m := by
  have := sumN_tail (f := f) (n := m) h (4 - m)
  rw [show m + (4 - m) = 4 by omega] at this
  exact this
def thF (V : Vw) (R : Ru) (a b c : Nat) : Nat := if thC V R a b c = true then 1 else 0
theorem thF_0 {V : Vw} {R : Ru} {a b c : Nat} (h : thC V R a b c = false) : thF V R a b c = 0 := by unfold thF; rw [h]; rfl
theorem thC_hi {V : Vw} {R : Ru} {a b c : Nat} (h : vm V ≤ a ∨ vm V ≤ b ∨ vm V ≤ c) : thC V R a b c = false := by
  cases hc : thC V R a b c with
  | false => rfl
  | true =>
    unfold thC thOk at hc
    simp only [Bool.and_eq_true, decide_eq_true_eq] at hc
    omega
theorem thW_eq {V : Vw} {R : Ru} (hm : vm V ≤ 4) : thW V R = sumN (fun a => sumN (fun b => sumN (thF V R a b) (vm V)) (vm V)) (vm V) := by
  have h1 : thW V R = sumN (fun a => sumN (fun b => sumN (thF V R a b) 4) 4) 4 := sum64 (thF V R)
  rw [h1, sumN_cut hm (fun a ha => sumN_zero (fun b _ => sumN_zero (fun c _ => thF_0 (thC_hi (Or.inl ha)))))]
  refine sumN_congr (fun a _ => ?_)
  rw [sumN_cut hm (fun b hb => sumN_zero (fun c _ => thF_0 (thC_hi (Or.inr (Or.inl hb)))))]
  refine sumN_congr (fun b _ => ?_)
  exact sumN_cut hm (fun c hc => thF_0 (thC_hi (Or.inr (Or.inr hc))))
section PUB8
variable {M : MM} {S : St} {Q : Option Value → MM → Prop}
theorem k_doesTurn {V : Vw} {R : Ru} {z a b c : Nat} (C : CardIs M 1 V) (O : VOK V) (hz : ZSh z) (hz15 : z + 3 < 5 ∨ 23 < z) (HZ : SchIs M z R) (OR : RuOK R) (ha : a < vm V) (hb : b < vm V) (hc : c < vm V) (kk : ∀ M', Kp M M' [5, 6, 7, 8, 20, 22, 23] → Q (some (.int (nI (b2n (turnS V R a b c))))) M') : Ca 119 [.ref 0, .ref z, .int (nI a), .int (nI b), .int (nI c)] M Q := by
  have h4 := O.2.2.2.1
  have h7 := O.2.1
  have hL := O.2.2.2.2.1
  have hb5 := O.2.2.2.2.2.1
  obtain ⟨T, hT⟩ : ∃ T : Nat → Nat → Bool, T = turnG (vn V) (vm V) (vc V) (vk V) R a b c := ⟨_, rfl⟩
  have hTS : turnS V R a b c = anyN (fun j => vc V j && anyN (T j) 6) (vn V) := by rw [hT]; rfl
  rw [hTS] at kk
  have hk : q_cd 119 = kd_X8_doesTurn := rfl
  show WP 119 0 [some (.ref 0), some (.ref z), some (.int (nI a)), some (.int (nI b)), some (.int (nI c)), none, none] [] M Q
  have loop := q_dn (n := vn V) (P := fun j => ∀ M1 x6, Kp M M1 [5, 6, 7, 8, 20, 22, 23] → CardIs M1 5 V → anyN (fun j => vc V j && anyN (T j) 6) j = false → WP 119 7 [some (.ref 0), some (.ref z), some (.int (nI a)), some (.int (nI b)), some (.int (nI c)), some (.int (nI j)), x6] [] M1 Q) (by
    intro M1 x6 K1 D1 hf
    rw [hf] at kk
    repeat (first | refine wp_s hk rfl rfl ?_ | refine wp_goto hk rfl ?_ | refine wp_geti hk rfl rfl rfl rfl ?_ | refine wp_getr hk rfl rfl rfl rfl ?_)
    refine wp_callV hk rfl rfl rfl rfl rfl rfl ?_
    refine c_judges CSh1 (C.kp K1 (by decide) (by decide) (by decide) (by decide)) ?_
    refine wp_icgeN (u := vn V) (v := vn V) hk rfl rfl rfl (by omega) (by omega) (fun _ => ?_) (fun h => absurd h (by omega))
    repeat (first | refine wp_s hk rfl rfl ?_ | refine wp_goto hk rfl ?_ | refine wp_geti hk rfl rfl rfl rfl ?_ | refine wp_getr hk rfl rfl rfl rfl ?_)
    exact wp_ir hk rfl rfl (kk M1 K1)) (by
    intro j hj ih M1 x6 K1 D1 hf
    have C1 : CardIs M1 1 V := C.kp K1 (by decide) (by decide) (by decide) (by decide)
    rw [show anyN (fun j => vc V j && anyN (T j) 6) (j + 1) = (anyN (fun j => vc V j && anyN (T j) 6) j || (vc V j && anyN (T j) 6)) from rfl, hf, Bool.false_or] at ih
    repeat (first | refine wp_s hk rfl rfl ?_ | refine wp_goto hk rfl ?_ | refine wp_geti hk rfl rfl rfl rfl ?_ | refine wp_getr hk rfl rfl rfl rfl ?_)
    refine wp_callV hk rfl rfl rfl rfl rfl rfl ?_
    refine c_judges CSh1 C1 ?_
    refine wp_icgeN (u := j) (v := vn V) hk rfl rfl rfl (by omega) (by omega) (fun h => absurd h (by omega)) (fun _ => ?_)
    repeat (first | refine wp_s hk rfl rfl ?_ | refine wp_goto hk rfl ?_ | refine wp_geti hk rfl rfl rfl rfl ?_ | refine wp_getr hk rfl rfl rfl rfl ?_)
    refine wp_callV hk rfl rfl rfl rfl rfl rfl ?_
    refine c_counts CSh1 C1 hL h7 (by omega) ?_
    refine wp_ifeqB hk rfl rfl (fun y => ?_) (fun y => ?_)
    · refine wp_s hk rfl rfl ?_
      refine wp_goto hk rfl ?_
      rw [q_nadd j 1]
      exact ih M1 _ K1 D1 (by rw [y]; rfl)
    · have inner := q_dn (n := 6) (P := fun v => ∀ M2 k, Kp M M2 [5, 6, 7, 8, 20, 22, 23] → CardIs M2 5 (setK V k) → (∀ i, i < 7 → ∀ t, t < 4 → ¬ (i = j ∧ t = c) → k i t = vk V i t) → anyN (T j) v = false → WP 119 19 [some (.ref 0), some (.ref z), some (.int (nI a)), some (.int (nI b)), some (.int (nI c)), some (.int (nI j)), some (.int (nI v))] [] M2 Q) (by
        intro M2 k K2 D2 hkk hf2
        have C2 : CardIs M2 1 V := C.kp K2 (by decide) (by decide) (by decide) (by decide)
        repeat (first | refine wp_s hk rfl rfl ?_ | refine wp_goto hk rfl ?_ | refine wp_geti hk rfl rfl rfl rfl ?_ | refine wp_getr hk rfl rfl rfl rfl ?_)
        refine wp_icgeN (u := 6) (v := 6) hk rfl rfl rfl (by omega) (by omega) (fun _ => ?_) (fun h => absurd h (by omega))
        repeat (first | refine wp_s hk rfl rfl ?_ | refine wp_goto hk rfl ?_ | refine wp_geti hk rfl rfl rfl rfl ?_ | refine wp_getr hk rfl rfl rfl rfl ?_)
        refine wp_callV hk rfl rfl rfl rfl rfl rfl ?_
        refine c_markOf CSh1 C2 (by omega) (by omega) ?_
        refine wp_callV hk rfl rfl rfl rfl rfl rfl ?_
        refine c_give CSh5 D2 (by omega) (by omega) (fun M3 K3 D3 => ?_)
        refine wp_s hk rfl rfl ?_
        refine wp_goto hk rfl ?_
        rw [q_nadd j 1]
        refine ih M3 _ (K2.tr (K3.mono (by decide))) (D3.cg rfl rfl rfl (fun i hi t ht => ?_) (fun _ _ => rfl) (fun _ _ => rfl)) (by rw [hf2, Bool.and_false])
        show mkM k j c (vk V j c) i t = vk V i t
        unfold mkM
        by_cases e : i = j ∧ t = c
        · rw [if_pos e, e.1, e.2]
        · rw [if_neg e]; exact hkk i hi t ht e) (by
        intro v hv ihv M2 k K2 D2 hkk hf2
        simp only [anyN] at ihv
        rw [hf2, Bool.false_or] at ihv
        repeat (first | refine wp_s hk rfl rfl ?_ | refine wp_goto hk rfl ?_ | refine wp_geti hk rfl rfl rfl rfl ?_ | refine wp_getr hk rfl rfl rfl rfl ?_)
        refine wp_icgeN (u := v) (v := 6) hk rfl rfl rfl (by omega) (by omega) (fun h => absurd h (by omega)) (fun _ => ?_)
        repeat (first | refine wp_s hk rfl rfl ?_ | refine wp_goto hk rfl ?_ | refine wp_geti hk rfl rfl rfl rfl ?_ | refine wp_getr hk rfl rfl rfl rfl ?_)
        refine wp_callV hk rfl rfl rfl rfl rfl rfl ?_
        refine c_give CSh5 D2 (by omega) (by omega) (fun M3 K3 D3 => ?_)
        have D3' : CardIs M3 5 (setK V (mkM (vk V) j c v)) := D3.cg rfl rfl rfl (fun i hi t ht => by
          show mkM k j c v i t = mkM (vk V) j c v i t
          unfold mkM
          by_cases e : i = j ∧ t = c
          · rw [if_pos e, if_pos e]
          · rw [if_neg e, if_neg e]; exact hkk i hi t ht e) (fun _ _ => rfl) (fun _ _ => rfl)
        have K13 : Kp M M3 [5, 6, 7, 8, 20, 22, 23] := K2.tr (K3.mono (by decide))
        have O3 : VOK (setK V (mkM (vk V) j c v)) := O.setK (fun i hi t ht => by
          have := hb5 i hi t ht
          unfold mkM
          split <;> omega)
        repeat (first | refine wp_s hk rfl rfl ?_ | refine wp_goto hk rfl ?_ | refine wp_geti hk rfl rfl rfl rfl ?_ | refine wp_getr hk rfl rfl rfl rfl ?_)
        refine wp_callV hk rfl rfl rfl rfl rfl rfl ?_
        refine t_take CSh5 TSh20 hz (by omega) (by omega) D3' O3 (HZ.kp K13 (by simp; omega) (by simp; omega) (by simp; omega) (by simp; omega)) OR (fun M4 K4 W4 => ?_)
        have W4' : StW M4 20 R.1 (vm V) (worthW (vn V) (vm V) (vc V) (mkM (vk V) j c v) R) := W4
        have K14 : Kp M M4 [5, 6, 7, 8, 20, 22, 23] := K13.tr (K4.mono (by decide))
        have hTv : T j v = !aheadW (worthW (vn V) (vm V) (vc V) (mkM (vk V) j c v) R) a b 0 R.1 := by rw [hT]; rfl
        repeat (first | refine wp_s hk rfl rfl ?_ | refine wp_goto hk rfl ?_ | refine wp_geti hk rfl rfl rfl rfl ?_ | refine wp_getr hk rfl rfl rfl rfl ?_)
        refine wp_callV hk rfl rfl rfl rfl rfl rfl ?_
        refine t_ahead TSh20 W4' ha hb ?_
        refine wp_ifneB hk rfl rfl (fun w => ?_) (fun w => ?_)
        · rw [w] at hTv
          refine wp_s hk rfl rfl ?_
          refine wp_goto hk rfl ?_
          rw [q_nadd v 1]
          refine ihv M4 (mkM (vk V) j c v) K14 (D3'.kp K4 (by decide) (by decide) (by decide) (by decide)) (fun i hi t ht e => ?_) hTv
          unfold mkM
          rw [if_neg e]
        · rw [w] at hTv
          have h6 : anyN (T j) 6 = true := anyN_iff.mpr ⟨v, hv, hTv⟩
          have hall : anyN (fun j => vc V j && anyN (T j) 6) (vn V) = true := anyN_iff.mpr ⟨j, hj, show (vc V j && anyN (T j) 6) = true by rw [y, h6]; rfl⟩
          rw [hall] at kk
          repeat (first | refine wp_s hk rfl rfl ?_ | refine wp_goto hk rfl ?_ | refine wp_geti hk rfl rfl rfl rfl ?_ | refine wp_getr hk rfl rfl rfl rfl ?_)
          exact wp_ir hk rfl rfl (kk M4 K14))
      refine wp_s hk rfl rfl ?_
      refine wp_s hk rfl rfl ?_
      exact inner 0 (Nat.zero_le _) M1 (vk V) K1 D1 (fun _ _ _ _ _ => rfl) rfl)
  repeat (first | refine wp_s hk rfl rfl ?_ | refine wp_goto hk rfl ?_ | refine wp_geti hk rfl rfl rfl rfl ?_ | refine wp_getr hk rfl rfl rfl rfl ?_)
  refine wp_callV hk rfl rfl rfl rfl rfl rfl ?_
  refine c_copyFrom CSh5 CSh1 (Or.inr (by omega)) C (fun M1 K1 C1 => ?_)
  refine wp_s hk rfl rfl ?_
  refine wp_s hk rfl rfl ?_
  exact loop 0 (Nat.zero_le _) M1 _ (K1.mono (by decide)) C1 rfl
theorem k_turns {a b c d : Int32} (I : ClsInv M S) (O : StOK S) (kk : ∀ M', Kp M M' scr → Q (some (.int (spTurns S a b c d))) M') : Ca 120 [.ref 0, .int a, .int b, .int c, .int d] M Q := by
  have h4 := O.1.2.2.2.1
  have h7 := O.1.2.1
  unfold spTurns at kk
  have hk : q_cd 120 = kd_X8_turns := rfl
  show WP 120 0 [some (.ref 0), some (.int a), some (.int b), some (.int c), some (.int d)] [] M Q
  have no : (isN a 3 && (isN b (vm (sV S)) && (isN c (vm (sV S)) && isN d (vm (sV S))))) = false → WP 120 19 [some (.ref 0), some (.int a), some (.int b), some (.int c), some (.int d)] [] M Q := by
    intro h
    rw [h] at kk
    repeat (first | refine wp_s hk rfl rfl ?_ | refine wp_goto hk rfl ?_ | refine wp_geti hk rfl rfl rfl rfl ?_ | refine wp_getr hk rfl rfl rfl rfl ?_)
    exact wp_ir hk rfl rfl (kk M (Kp.rf _ _))
  repeat (first | refine wp_s hk rfl rfl ?_ | refine wp_goto hk rfl ?_ | refine wp_geti hk rfl rfl rfl rfl ?_ | refine wp_getr hk rfl rfl rfl rfl ?_)
  refine wp_callV hk rfl rfl rfl rfl rfl rfl ?_
  refine k_isRule ?_
  refine wp_ifeqB hk rfl rfl (fun h => no (by rw [h]; rfl)) (fun ha => ?_)
  repeat (first | refine wp_s hk rfl rfl ?_ | refine wp_goto hk rfl ?_ | refine wp_geti hk rfl rfl rfl rfl ?_ | refine wp_getr hk rfl rfl rfl rfl ?_)
  refine wp_callV hk rfl rfl rfl rfl rfl rfl ?_
  refine c_hasSkater CSh1 I.1 ?_
  refine wp_ifeqB hk rfl rfl (fun h => no (by rw [h, Bool.false_and, Bool.and_false])) (fun hb => ?_)
  repeat (first | refine wp_s hk rfl rfl ?_ | refine wp_goto hk rfl ?_ | refine wp_geti hk rfl rfl rfl rfl ?_ | refine wp_getr hk rfl rfl rfl rfl ?_)
  refine wp_callV hk rfl rfl rfl rfl rfl rfl ?_
  refine c_hasSkater CSh1 I.1 ?_
  refine wp_ifeqB hk rfl rfl (fun h => no (by rw [h, Bool.false_and, Bool.and_false, Bool.and_false])) (fun hc => ?_)
  repeat (first | refine wp_s hk rfl rfl ?_ | refine wp_goto hk rfl ?_ | refine wp_geti hk rfl rfl rfl rfl ?_ | refine wp_getr hk rfl rfl rfl rfl ?_)
  refine wp_callV hk rfl rfl rfl rfl rfl rfl ?_
  refine c_hasSkater CSh1 I.1 ?_
  refine wp_ifneB hk rfl rfl (fun hd => ?_) (fun h => no (by rw [h, Bool.and_false, Bool.and_false, Bool.and_false]))
  simp only [ha, hb, hc, hd, Bool.and_self, if_true] at kk
  have bad : (b = c ∨ b = d ∨ c = d) → WP 120 30 [some (.ref 0), some (.int a), some (.int b), some (.int c), some (.int d)] [] M Q := by
    intro h
    rw [if_pos h] at kk
    repeat (first | refine wp_s hk rfl rfl ?_ | refine wp_goto hk rfl ?_ | refine wp_geti hk rfl rfl rfl rfl ?_ | refine wp_getr hk rfl rfl rfl rfl ?_)
    exact wp_ir hk rfl rfl (kk M (Kp.rf _ _))
  repeat (first | refine wp_s hk rfl rfl ?_ | refine wp_goto hk rfl ?_ | refine wp_geti hk rfl rfl rfl rfl ?_ | refine wp_getr hk rfl rfl rfl rfl ?_)
  refine wp_iceq hk rfl (fun g => bad (Or.inl g)) (fun g1 => ?_)
  repeat (first | refine wp_s hk rfl rfl ?_ | refine wp_goto hk rfl ?_ | refine wp_geti hk rfl rfl rfl rfl ?_ | refine wp_getr hk rfl rfl rfl rfl ?_)
  refine wp_iceq hk rfl (fun g => bad (Or.inr (Or.inl g))) (fun g2 => ?_)
  repeat (first | refine wp_s hk rfl rfl ?_ | refine wp_goto hk rfl ?_ | refine wp_geti hk rfl rfl rfl rfl ?_ | refine wp_getr hk rfl rfl rfl rfl ?_)
  refine wp_icne hk rfl (fun g3 => ?_) (fun g => bad (Or.inr (Or.inr (Classical.not_not.mp g))))
  rw [if_neg (fun z => by rcases z with z | z | z <;> contradiction)] at kk
  obtain ⟨ha1, ha2⟩ := i2n_of (by omega) ha
  obtain ⟨hb1, hb2⟩ := i2n_of (by omega) hb
  obtain ⟨hc1, hc2⟩ := i2n_of (by omega) hc
  obtain ⟨hd1, hd2⟩ := i2n_of (by omega) hd
  rw [ha2, hb2, hc2, hd2]
  generalize i2n a = r at ha1 kk ⊢
  generalize i2n b = x at hb1 kk ⊢
  generalize i2n c = y at hc1 kk ⊢
  generalize i2n d = w at hd1 kk ⊢
  repeat (first | refine wp_s hk rfl rfl ?_ | refine wp_goto hk rfl ?_ | refine wp_geti hk rfl rfl rfl rfl ?_ | refine wp_getr hk rfl rfl rfl rfl ?_)
  refine wp_qld (jx := r) hk rfl rfl rfl rfl (zcs_at r ha1) (by decide) ?_
  repeat (first | refine wp_s hk rfl rfl ?_ | refine wp_goto hk rfl ?_ | refine wp_geti hk rfl rfl rfl rfl ?_ | refine wp_getr hk rfl rfl rfl rfl ?_)
  refine wp_callV hk rfl rfl rfl rfl rfl rfl ?_
  refine t_take CSh1 TSh16 (ZShR r ha1) (by omega) (Or.inr (by omega)) I.1 O.1 (I.2.2.1 r ha1) (O.2.2.1 r ha1) (fun M1 K1 W1 => ?_)
  have I1 := I.kp O (K1.mono (by decide))
  repeat (first | refine wp_s hk rfl rfl ?_ | refine wp_goto hk rfl ?_ | refine wp_geti hk rfl rfl rfl rfl ?_ | refine wp_getr hk rfl rfl rfl rfl ?_)
  refine wp_callV hk rfl rfl rfl rfl rfl rfl ?_
  refine t_ahead TSh16 W1 hb1 hc1 ?_
  refine wp_ifneB hk rfl rfl (fun h => ?_) (fun h => ?_)
  · have h' : aheadW (wS (sV S) (sR S r)) x y 0 (sR S r).1 = true := h
    rw [if_pos h'] at kk
    repeat (first | refine wp_s hk rfl rfl ?_ | refine wp_goto hk rfl ?_ | refine wp_geti hk rfl rfl rfl rfl ?_ | refine wp_getr hk rfl rfl rfl rfl ?_)
    refine wp_qld (jx := r) hk rfl rfl rfl rfl (zcs_at r ha1) (by decide) ?_
    repeat (first | refine wp_s hk rfl rfl ?_ | refine wp_goto hk rfl ?_ | refine wp_geti hk rfl rfl rfl rfl ?_ | refine wp_getr hk rfl rfl rfl rfl ?_)
    refine wp_callV hk rfl rfl rfl rfl rfl rfl ?_
    refine k_doesTurn I1.1 O.1 (ZShR r ha1) (Or.inr (by omega)) (I1.2.2.1 r ha1) (O.2.2.1 r ha1) hb1 hc1 hd1 (fun M2 K2 => ?_)
    have hkk := kk M2 ((K1.mono (by decide)).tr (K2.mono (by decide)))
    refine wp_ifeqB hk rfl rfl (fun v => ?_) (fun v => ?_)
    · rw [v] at hkk
      repeat (first | refine wp_s hk rfl rfl ?_ | refine wp_goto hk rfl ?_ | refine wp_geti hk rfl rfl rfl rfl ?_ | refine wp_getr hk rfl rfl rfl rfl ?_)
      exact wp_ir hk rfl rfl hkk
    · rw [v] at hkk
      repeat (first | refine wp_s hk rfl rfl ?_ | refine wp_goto hk rfl ?_ | refine wp_geti hk rfl rfl rfl rfl ?_ | refine wp_getr hk rfl rfl rfl rfl ?_)
      exact wp_ir hk rfl rfl hkk
  · have h' : aheadW (wS (sV S) (sR S r)) x y 0 (sR S r).1 = false := h
    rw [h', if_neg Bool.false_ne_true] at kk
    repeat (first | refine wp_s hk rfl rfl ?_ | refine wp_goto hk rfl ?_ | refine wp_geti hk rfl rfl rfl rfl ?_ | refine wp_getr hk rfl rfl rfl rfl ?_)
    exact wp_ir hk rfl rfl (kk M1 (K1.mono (by decide)))
theorem k_thirds {a : Int32} (I : ClsInv M S) (O : StOK S) (kk : ∀ M', Kp M M' scr → Q (some (.int (spThirds S a))) M') : Ca 121 [.ref 0, .int a] M Q := by
  have h4 := O.1.2.2.2.1
  have h7 := O.1.2.1
  unfold spThirds at kk
  have hk : q_cd 121 = kd_X8_thirds := rfl
  show WP 121 0 [some (.ref 0), some (.int a), none, none, none, none] [] M Q
  repeat (first | refine wp_s hk rfl rfl ?_ | refine wp_goto hk rfl ?_ | refine wp_geti hk rfl rfl rfl rfl ?_ | refine wp_getr hk rfl rfl rfl rfl ?_)
  refine wp_callV hk rfl rfl rfl rfl rfl rfl ?_
  refine k_isRule ?_
  refine wp_ifneB hk rfl rfl (fun ha => ?_) (fun h => ?_)
  · rw [if_pos ha] at kk
    obtain ⟨ha1, ha2⟩ := i2n_of (by omega) ha
    rw [ha2]
    generalize i2n a = r at ha1 kk ⊢
    rw [thW_eq h4] at kk
    repeat (first | refine wp_s hk rfl rfl ?_ | refine wp_goto hk rfl ?_ | refine wp_geti hk rfl rfl rfl rfl ?_ | refine wp_getr hk rfl rfl rfl rfl ?_)
    refine wp_qld (jx := r) hk rfl rfl rfl rfl (zcs_at r ha1) (by decide) ?_
    repeat (first | refine wp_s hk rfl rfl ?_ | refine wp_goto hk rfl ?_ | refine wp_geti hk rfl rfl rfl rfl ?_ | refine wp_getr hk rfl rfl rfl rfl ?_)
    refine wp_callV hk rfl rfl rfl rfl rfl rfl ?_
    refine t_take CSh1 TSh16 (ZShR r ha1) (by omega) (Or.inr (by omega)) I.1 O.1 (I.2.2.1 r ha1) (O.2.2.1 r ha1) (fun M0 K0 W0 => ?_)
    obtain ⟨F, hF⟩ : ∃ F : Nat → Nat → Nat → Nat, F = thF (sV S) (sR S r) := ⟨_, rfl⟩
    rw [← hF] at kk
    have outer := q_dn (n := vm (sV S)) (P := fun x => ∀ M1 x4 x5, Kp M0 M1 [5, 6, 7, 8, 20, 22, 23] → WP 121 19 [some (.ref 0), some (.int (nI r)), some (.int (nI (sumN (fun a => sumN (fun b => sumN (F a b) (vm (sV S))) (vm (sV S))) x))), some (.int (nI x)), x4, x5] [] M1 Q) (by
      intro M1 x4 x5 K1
      have K01 : Kp M M1 scr := (K0.mono (by decide)).tr (K1.mono (by decide))
      have I1 := I.kp O K01
      repeat (first | refine wp_s hk rfl rfl ?_ | refine wp_goto hk rfl ?_ | refine wp_geti hk rfl rfl rfl rfl ?_ | refine wp_getr hk rfl rfl rfl rfl ?_)
      refine wp_callV hk rfl rfl rfl rfl rfl rfl ?_
      refine c_skaters CSh1 I1.1 ?_
      refine wp_icgeN (u := vm (sV S)) (v := vm (sV S)) hk rfl rfl rfl (by omega) (by omega) (fun _ => ?_) (fun h => absurd h (by omega))
      repeat (first | refine wp_s hk rfl rfl ?_ | refine wp_goto hk rfl ?_ | refine wp_geti hk rfl rfl rfl rfl ?_ | refine wp_getr hk rfl rfl rfl rfl ?_)
      exact wp_ir hk rfl rfl (kk M1 K01)) (by
      intro x hx ih M1 x4 x5 K1
      have I1 := I.kp O ((K0.mono (by decide)).tr (K1.mono (by decide)))
      rw [show sumN (fun a => sumN (fun b => sumN (F a b) (vm (sV S))) (vm (sV S))) (x + 1) = sumN (fun a => sumN (fun b => sumN (F a b) (vm (sV S))) (vm (sV S))) x + sumN (fun b => sumN (F x b) (vm (sV S))) (vm (sV S)) from rfl] at ih
      generalize sumN (fun a => sumN (fun b => sumN (F a b) (vm (sV S))) (vm (sV S))) x = A at ih ⊢
      have mid := q_dn (n := vm (sV S)) (P := fun y => ∀ M2 x5, Kp M0 M2 [5, 6, 7, 8, 20, 22, 23] → WP 121 26 [some (.ref 0), some (.int (nI r)), some (.int (nI (A + sumN (fun b => sumN (F x b) (vm (sV S))) y))), some (.int (nI x)), some (.int (nI y)), x5] [] M2 Q) (by
        intro M2 x5 K2
        have I2 := I.kp O ((K0.mono (by decide)).tr (K2.mono (by decide)))
        repeat (first | refine wp_s hk rfl rfl ?_ | refine wp_goto hk rfl ?_ | refine wp_geti hk rfl rfl rfl rfl ?_ | refine wp_getr hk rfl rfl rfl rfl ?_)
        refine wp_callV hk rfl rfl rfl rfl rfl rfl ?_
        refine c_skaters CSh1 I2.1 ?_
        refine wp_icgeN (u := vm (sV S)) (v := vm (sV S)) hk rfl rfl rfl (by omega) (by omega) (fun _ => ?_) (fun h => absurd h (by omega))
        refine wp_s hk rfl rfl ?_
        refine wp_goto hk rfl ?_
        rw [q_nadd x 1]
        exact ih M2 _ _ K2) (by
        intro y hy ihy M2 x5 K2
        have I2 := I.kp O ((K0.mono (by decide)).tr (K2.mono (by decide)))
        rw [show sumN (fun b => sumN (F x b) (vm (sV S))) (y + 1) = sumN (fun b => sumN (F x b) (vm (sV S))) y + sumN (F x y) (vm (sV S)) from rfl, ← Nat.add_assoc] at ihy
        generalize A + sumN (fun b => sumN (F x b) (vm (sV S))) y = B at ihy ⊢
        have fin : ∀ M3 x5 n, Kp M0 M3 [5, 6, 7, 8, 20, 22, 23] → n = sumN (F x y) (vm (sV S)) → WP 121 63 [some (.ref 0), some (.int (nI r)), some (.int (nI (B + n))), some (.int (nI x)), some (.int (nI y)), x5] [] M3 Q := by
          intro M3 x5 n K3 hn
          rw [hn]
          refine wp_s hk rfl rfl ?_
          refine wp_goto hk rfl ?_
          rw [q_nadd y 1]
          exact ihy M3 _ K3
        have inner := q_dn (n := vm (sV S)) (P := fun t => ∀ M3, Kp M0 M3 [5, 6, 7, 8, 20, 22, 23] → WP 121 33 [some (.ref 0), some (.int (nI r)), some (.int (nI (B + sumN (F x y) t))), some (.int (nI x)), some (.int (nI y)), some (.int (nI t))] [] M3 Q) (by
          intro M3 K3
          have I3 := I.kp O ((K0.mono (by decide)).tr (K3.mono (by decide)))
          repeat (first | refine wp_s hk rfl rfl ?_ | refine wp_goto hk rfl ?_ | refine wp_geti hk rfl rfl rfl rfl ?_ | refine wp_getr hk rfl rfl rfl rfl ?_)
          refine wp_callV hk rfl rfl rfl rfl rfl rfl ?_
          refine c_skaters CSh1 I3.1 ?_
          refine wp_icgeN (u := vm (sV S)) (v := vm (sV S)) hk rfl rfl rfl (by omega) (by omega) (fun _ => ?_) (fun h => absurd h (by omega))
          exact fin M3 _ _ K3 rfl) (by
          intro t ht iht M3 K3
          have I3 := I.kp O ((K0.mono (by decide)).tr (K3.mono (by decide)))
          have W3 : StW M3 16 (sR S r).1 (vm (sV S)) (wS (sV S) (sR S r)) := W0.kp K3 (by decide) (by decide)
          rw [show sumN (F x y) (t + 1) = sumN (F x y) t + F x y t from rfl, ← Nat.add_assoc] at iht
          repeat (first | refine wp_s hk rfl rfl ?_ | refine wp_goto hk rfl ?_ | refine wp_geti hk rfl rfl rfl rfl ?_ | refine wp_getr hk rfl rfl rfl rfl ?_)
          refine wp_callV hk rfl rfl rfl rfl rfl rfl ?_
          refine c_skaters CSh1 I3.1 ?_
          refine wp_icgeN (u := t) (v := vm (sV S)) hk rfl rfl rfl (by omega) (by omega) (fun h => absurd h (by omega)) (fun _ => ?_)
          repeat (first | refine wp_s hk rfl rfl ?_ | refine wp_goto hk rfl ?_ | refine wp_geti hk rfl rfl rfl rfl ?_ | refine wp_getr hk rfl rfl rfl rfl ?_)
          refine wp_callV hk rfl rfl rfl rfl rfl rfl ?_
          refine t_ahead TSh16 W3 hx hy ?_
          have hth : ∀ c, c < vm (sV S) → F x y c = if (¬ x = y ∧ ¬ x = c ∧ ¬ y = c) ∧ aheadW (wS (sV S) (sR S r)) x y 0 (sR S r).1 = true ∧ turnS (sV S) (sR S r) x y c = true then 1 else 0 := fun c hc => by
            rw [hF]
            unfold thF thC thOk
            congr 1
            simp only [Bool.and_eq_true, decide_eq_true_eq, hx, hy, hc, true_and]
          refine wp_ifeqB hk rfl rfl (fun h => ?_) (fun h => ?_)
          · have z1 : ∀ c, c < vm (sV S) → F x y c = 0 := fun c hc => by
              rw [hth c hc, h]
              exact if_neg (fun z => by cases z.2.1)
            refine fin M3 _ _ K3 ?_
            rw [sumN_zero (fun c hc => z1 c (by omega)), sumN_zero z1]
          · have hxy : ¬ x = y := fun e => by
              subst e
              rw [aheadW_self] at h
              cases h
            rw [hth t ht] at iht
            have skip : ∀ M4, Kp M0 M4 [5, 6, 7, 8, 20, 22, 23] → ¬ ((¬ x = y ∧ ¬ x = t ∧ ¬ y = t) ∧ aheadW (wS (sV S) (sR S r)) x y 0 (sR S r).1 = true ∧ turnS (sV S) (sR S r) x y t = true) → WP 121 61 [some (.ref 0), some (.int (nI r)), some (.int (nI (B + sumN (F x y) t))), some (.int (nI x)), some (.int (nI y)), some (.int (nI t))] [] M4 Q := by
              intro M4 K4 hq
              rw [if_neg hq, Nat.add_zero] at iht
              refine wp_s hk rfl rfl ?_
              refine wp_goto hk rfl ?_
              rw [q_nadd t 1]
              exact iht M4 K4
            repeat (first | refine wp_s hk rfl rfl ?_ | refine wp_goto hk rfl ?_ | refine wp_geti hk rfl rfl rfl rfl ?_ | refine wp_getr hk rfl rfl rfl rfl ?_)
            refine wp_iceqN (u := t) (v := x) hk rfl rfl rfl (by omega) (by omega) (fun e => skip M3 K3 (fun q => q.1.2.1 e.symm)) (fun e1 => ?_)
            repeat (first | refine wp_s hk rfl rfl ?_ | refine wp_goto hk rfl ?_ | refine wp_geti hk rfl rfl rfl rfl ?_ | refine wp_getr hk rfl rfl rfl rfl ?_)
            refine wp_iceqN (u := t) (v := y) hk rfl rfl rfl (by omega) (by omega) (fun e => skip M3 K3 (fun q => q.1.2.2 e.symm)) (fun e2 => ?_)
            repeat (first | refine wp_s hk rfl rfl ?_ | refine wp_goto hk rfl ?_ | refine wp_geti hk rfl rfl rfl rfl ?_ | refine wp_getr hk rfl rfl rfl rfl ?_)
            refine wp_qld (jx := r) hk rfl rfl rfl rfl (zcs_at r ha1) (by decide) ?_
            repeat (first | refine wp_s hk rfl rfl ?_ | refine wp_goto hk rfl ?_ | refine wp_geti hk rfl rfl rfl rfl ?_ | refine wp_getr hk rfl rfl rfl rfl ?_)
            refine wp_callV hk rfl rfl rfl rfl rfl rfl ?_
            refine k_doesTurn I3.1 O.1 (ZShR r ha1) (Or.inr (by omega)) (I3.2.2.1 r ha1) (O.2.2.1 r ha1) hx hy ht (fun M4 K4 => ?_)
            refine wp_ifeqB hk rfl rfl (fun v => skip M4 (K3.tr K4) (fun q => by rw [v] at q; cases q.2.2)) (fun v => ?_)
            rw [if_pos ⟨⟨hxy, fun e => e1 e.symm, fun e => e2 e.symm⟩, h, v⟩] at iht
            refine wp_s hk rfl rfl ?_
            refine wp_s hk rfl rfl ?_
            refine wp_goto hk rfl ?_
            rw [q_nadd t 1, q_nadd _ 1]
            exact iht M4 (K3.tr K4))
        repeat (first | refine wp_s hk rfl rfl ?_ | refine wp_goto hk rfl ?_ | refine wp_geti hk rfl rfl rfl rfl ?_ | refine wp_getr hk rfl rfl rfl rfl ?_)
        refine wp_callV hk rfl rfl rfl rfl rfl rfl ?_
        refine c_skaters CSh1 I2.1 ?_
        refine wp_icgeN (u := y) (v := vm (sV S)) hk rfl rfl rfl (by omega) (by omega) (fun h => absurd h (by omega)) (fun _ => ?_)
        refine wp_s hk rfl rfl ?_
        refine wp_s hk rfl rfl ?_
        exact inner 0 (Nat.zero_le _) M2 K2)
      repeat (first | refine wp_s hk rfl rfl ?_ | refine wp_goto hk rfl ?_ | refine wp_geti hk rfl rfl rfl rfl ?_ | refine wp_getr hk rfl rfl rfl rfl ?_)
      refine wp_callV hk rfl rfl rfl rfl rfl rfl ?_
      refine c_skaters CSh1 I1.1 ?_
      refine wp_icgeN (u := x) (v := vm (sV S)) hk rfl rfl rfl (by omega) (by omega) (fun h => absurd h (by omega)) (fun _ => ?_)
      refine wp_s hk rfl rfl ?_
      refine wp_s hk rfl rfl ?_
      exact mid 0 (Nat.zero_le _) M1 _ K1)
    refine wp_s hk rfl rfl ?_
    refine wp_s hk rfl rfl ?_
    refine wp_s hk rfl rfl ?_
    refine wp_s hk rfl rfl ?_
    exact outer 0 (Nat.zero_le _) M0 _ _ (Kp.rf _ _)
  · rw [h] at kk
    repeat (first | refine wp_s hk rfl rfl ?_ | refine wp_goto hk rfl ?_ | refine wp_geti hk rfl rfl rfl rfl ?_ | refine wp_getr hk rfl rfl rfl rfl ?_)
    exact wp_ir hk rfl rfl (kk M (Kp.rf _ _))
end PUB8
