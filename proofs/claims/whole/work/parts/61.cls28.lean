/-! the class's own calls: minds -/
theorem lsC_K {V : Vw} {k : Nat → Nat → Nat} {pl : Nat → Nat} {f : Nat} : ∀ t, lsC (setK V k) pl f t = lsC V pl f t
  | 0 => rfl
  | t + 1 => by
    simp only [lsC, lsC_K t]
    rfl
theorem mkL_le {V : Vw} {n set : Nat} (O : VOK V) : ∀ j, j < 7 → ∀ t, t < 4 → mkL V n set j t ≤ 5 := fun j hj t ht => by
  have := O.2.2.2.2.2.1 j hj t ht
  unfold mkL fv5
  repeat' split
  all_goals omega
/-- a set that is noted -/
def ndM (M : MM) (V : Vw) (R : Ru) (x : Nat) : Prop := ∀ f, f < 4 → M 70 (4 * x + f) = nI (mdL V R x f)
theorem ndM.keep {M M' : MM} {V : Vw} {R : Ru} {x y : Nat} (h : ndM M V R x) (hy : ndM M' V R y) (ho : ∀ i, (i < 4 * y ∨ 4 * y + 4 ≤ i) → M' 70 i = M 70 i) : ndM M' V R x := by
  by_cases e : x = y
  · subst e; exact hy
  · intro f hf
    rw [ho _ (by omega)]
    exact h f hf
theorem fsW_none {f : Nat → Bool} : ∀ {n : Nat}, fsW f n = none → ∀ x, x < n → f x = false
  | 0, _, x, h => absurd h (Nat.not_lt_zero _)
  | n + 1, h, x, hx => by
    simp only [fsW] at h
    cases hn : fsW f n with
    | some y => rw [hn] at h; cases h
    | none =>
      rw [hn] at h
      by_cases e : x = n
      · subst e
        cases hf : f x with
        | false => rfl
        | true => rw [hf] at h; cases h
      · exact fsW_none hn x (by omega)
theorem fsW_some {f : Nat → Bool} {x : Nat} (h0 : fsW f x = none) (h1 : f x = true) : ∀ d, fsW f (x + 1 + d) = some x
  | 0 => by
    show fsW f (x + 1) = some x
    rw [fsW, h0]
    exact if_pos h1
  | d + 1 => by
    show fsW f (x + 1 + d + 1) = some x
    rw [fsW, fsW_some h0 h1 d]
section PUB9
variable {M : MM} {S : St} {Q : Option Value → MM → Prop}
theorem k_noteMind {V : Vw} {R : Ru} {z set : Nat} (C : CardIs M 1 V) (O : VOK V) (hz : ZSh z) (hz15 : z + 3 < 5 ∨ 70 < z) (HZ : SchIs M z R) (OR : RuOK R) (hset : set < 128)
    (kk : ∀ M', Kp M M' [5, 6, 7, 8, 20, 22, 23, 70] → (∀ i, (i < 4 * set ∨ 4 * set + 4 ≤ i) → M' 70 i = M 70 i) → ndM M' V R set → Q none M') : Ca 129 [.ref 0, .ref z, .int (nI set)] M Q := by
  have hk : q_cd 129 = kd_X8_noteMind := rfl
  show WP 129 0 [some (.ref 0), some (.ref z), some (.int (nI set))] [] M Q
  repeat (first | refine wp_s hk rfl rfl ?_ | refine wp_goto hk rfl ?_ | refine wp_geti hk rfl rfl rfl rfl ?_ | refine wp_getr hk rfl rfl rfl rfl ?_)
  refine wp_callV hk rfl rfl rfl rfl rfl rfl ?_
  refine c_copyFrom CSh5 CSh1 (Or.inr (by omega)) C (fun M1 K1 C1 => ?_)
  repeat (first | refine wp_s hk rfl rfl ?_ | refine wp_goto hk rfl ?_ | refine wp_geti hk rfl rfl rfl rfl ?_ | refine wp_getr hk rfl rfl rfl rfl ?_)
  refine wp_callV hk rfl rfl rfl rfl rfl rfl ?_
  refine c_leanAll CSh5 C1 O hset (fun M2 K2 C2 => ?_)
  have O2 : VOK (setK V (mkL V (vn V) set)) := O.setK (mkL_le O)
  have K12 : Kp M M2 [5, 6, 7, 8] := K1.tr (K2.mono (by decide))
  repeat (first | refine wp_s hk rfl rfl ?_ | refine wp_goto hk rfl ?_ | refine wp_geti hk rfl rfl rfl rfl ?_ | refine wp_getr hk rfl rfl rfl rfl ?_)
  refine wp_callV hk rfl rfl rfl rfl rfl rfl ?_
  refine t_take CSh5 TSh20 hz (by omega) (by omega) C2 O2 (HZ.kp K12 (by simp; omega) (by simp; omega) (by simp; omega) (by simp; omega)) OR (fun M3 K3 W3 => ?_)
  have C3 := C2.kp K3 (by decide) (by decide) (by decide) (by decide)
  have K13 : Kp M M3 [5, 6, 7, 8, 20, 22, 23] := (K12.mono (by decide)).tr (K3.mono (by decide))
  repeat (first | refine wp_s hk rfl rfl ?_ | refine wp_goto hk rfl ?_ | refine wp_geti hk rfl rfl rfl rfl ?_ | refine wp_getr hk rfl rfl rfl rfl ?_)
  refine wp_callV hk rfl rfl rfl rfl rfl rfl ?_
  refine y_note C3 O2 W3 hset (fun M4 K4 h4 h5 => ?_)
  refine wp_vr hk rfl (kk M4 ((K13.mono (by decide)).tr (K4.mono (by decide))) (fun i hi => by rw [h4 i hi, K13 70 (by decide)]) (fun f hf => ?_))
  rw [h5 f hf, lsC_K]
  rfl
theorem k_minded {a b c : Int32} (I : ClsInv M S) (O : StOK S) (kk : ∀ M', Kp M M' scr → Q (some (.int (spMinded S a b c))) M') : Ca 128 [.ref 0, .int a, .int b, .int c] M Q := by
  have h4 := O.1.2.2.2.1
  have h7 := O.1.2.1
  have h128 := pow_n h7
  unfold spMinded at kk
  have hk : q_cd 128 = kd_X8_minded := rfl
  show WP 128 0 [some (.ref 0), some (.int a), some (.int b), some (.int c)] [] M Q
  have no : (isN a 3 && isN c (vm (sV S))) = false → WP 128 9 [some (.ref 0), some (.int a), some (.int b), some (.int c)] [] M Q := by
    intro h
    rw [h] at kk
    repeat (first | refine wp_s hk rfl rfl ?_ | refine wp_goto hk rfl ?_ | refine wp_geti hk rfl rfl rfl rfl ?_ | refine wp_getr hk rfl rfl rfl rfl ?_)
    exact wp_ir hk rfl rfl (kk M (Kp.rf _ _))
  repeat (first | refine wp_s hk rfl rfl ?_ | refine wp_goto hk rfl ?_ | refine wp_geti hk rfl rfl rfl rfl ?_ | refine wp_getr hk rfl rfl rfl rfl ?_)
  refine wp_callV hk rfl rfl rfl rfl rfl rfl ?_
  refine k_isRule ?_
  refine wp_ifeqB hk rfl rfl (fun h => no (by rw [h]; rfl)) (fun ha => ?_)
  repeat (first | refine wp_s hk rfl rfl ?_ | refine wp_goto hk rfl ?_ | refine wp_geti hk rfl rfl rfl rfl ?_ | refine wp_getr hk rfl rfl rfl rfl ?_)
  refine wp_callV hk rfl rfl rfl rfl rfl rfl ?_
  refine c_hasSkater CSh1 I.1 ?_
  refine wp_ifneB hk rfl rfl (fun hc => ?_) (fun h => no (by rw [h, Bool.and_false]))
  simp only [ha, hc, Bool.and_self, if_true] at kk
  repeat (first | refine wp_s hk rfl rfl ?_ | refine wp_goto hk rfl ?_ | refine wp_geti hk rfl rfl rfl rfl ?_ | refine wp_getr hk rfl rfl rfl rfl ?_)
  refine wp_callV hk rfl rfl rfl rfl rfl rfl ?_
  refine k_isSet I.1 h7 ?_
  refine wp_ifneB hk rfl rfl (fun hb => ?_) (fun h => ?_)
  · rw [if_pos hb] at kk
    obtain ⟨ha1, ha2⟩ := i2n_of (by omega) ha
    obtain ⟨hb1, hb2⟩ := i2n_of (by omega) hb
    obtain ⟨hc1, hc2⟩ := i2n_of (by omega) hc
    rw [ha2, hb2, hc2]
    generalize i2n a = r at ha1 kk ⊢
    generalize i2n b = set at hb1 kk ⊢
    generalize i2n c = s at hc1 kk ⊢
    repeat (first | refine wp_s hk rfl rfl ?_ | refine wp_goto hk rfl ?_ | refine wp_geti hk rfl rfl rfl rfl ?_ | refine wp_getr hk rfl rfl rfl rfl ?_)
    refine wp_callV hk rfl rfl rfl rfl rfl rfl ?_
    refine c_copyFrom CSh5 CSh1 (Or.inr (by omega)) I.1 (fun M1 K1 C1 => ?_)
    repeat (first | refine wp_s hk rfl rfl ?_ | refine wp_goto hk rfl ?_ | refine wp_geti hk rfl rfl rfl rfl ?_ | refine wp_getr hk rfl rfl rfl rfl ?_)
    refine wp_callV hk rfl rfl rfl rfl rfl rfl ?_
    refine c_leanAll CSh5 C1 O.1 (by omega) (fun M2 K2 C2 => ?_)
    have O2 : VOK (setK (sV S) (mkL (sV S) (vn (sV S)) set)) := O.1.setK (mkL_le O.1)
    have K12 : Kp M M2 scr := (K1.mono (by decide)).tr (K2.mono (by decide))
    have I2 := I.kp O K12
    repeat (first | refine wp_s hk rfl rfl ?_ | refine wp_goto hk rfl ?_ | refine wp_geti hk rfl rfl rfl rfl ?_ | refine wp_getr hk rfl rfl rfl rfl ?_)
    refine wp_qld (jx := r) hk rfl rfl rfl rfl (zcs_at r ha1) (by decide) ?_
    repeat (first | refine wp_s hk rfl rfl ?_ | refine wp_goto hk rfl ?_ | refine wp_geti hk rfl rfl rfl rfl ?_ | refine wp_getr hk rfl rfl rfl rfl ?_)
    refine wp_callV hk rfl rfl rfl rfl rfl rfl ?_
    refine t_take CSh5 TSh20 (ZShR r ha1) (by omega) (Or.inr (by omega)) C2 O2 (I2.2.2.1 r ha1) (O.2.2.1 r ha1) (fun M3 K3 W3 => ?_)
    repeat (first | refine wp_s hk rfl rfl ?_ | refine wp_goto hk rfl ?_ | refine wp_geti hk rfl rfl rfl rfl ?_ | refine wp_getr hk rfl rfl rfl rfl ?_)
    refine wp_callV hk rfl rfl rfl rfl rfl rfl ?_
    refine t_placeOf TSh20 W3 hc1 ?_
    exact wp_ir hk rfl rfl (kk M3 (K12.tr (K3.mono (by decide))))
  · rw [h] at kk
    repeat (first | refine wp_s hk rfl rfl ?_ | refine wp_goto hk rfl ?_ | refine wp_geti hk rfl rfl rfl rfl ?_ | refine wp_getr hk rfl rfl rfl rfl ?_)
    exact wp_ir hk rfl rfl (kk M (Kp.rf _ _))
theorem k_rest {a b : Int32} (I : ClsInv M S) (O : StOK S) (kk : ∀ M', Kp M M' scr → Q (some (.int (spRest S a b))) M') : Ca 130 [.ref 0, .int a, .int b] M Q := by
  have h7 := O.1.2.1
  have h128 := pow_n h7
  unfold spRest at kk
  have hk : q_cd 130 = kd_X8_rest := rfl
  show WP 130 0 [some (.ref 0), some (.int a), some (.int b), none] [] M Q
  repeat (first | refine wp_s hk rfl rfl ?_ | refine wp_goto hk rfl ?_ | refine wp_geti hk rfl rfl rfl rfl ?_ | refine wp_getr hk rfl rfl rfl rfl ?_)
  refine wp_callV hk rfl rfl rfl rfl rfl rfl ?_
  refine k_isRule ?_
  refine wp_ifneB hk rfl rfl (fun ha => ?_) (fun h => ?_)
  · rw [if_pos ha] at kk
    repeat (first | refine wp_s hk rfl rfl ?_ | refine wp_goto hk rfl ?_ | refine wp_geti hk rfl rfl rfl rfl ?_ | refine wp_getr hk rfl rfl rfl rfl ?_)
    refine wp_callV hk rfl rfl rfl rfl rfl rfl ?_
    refine k_isSet I.1 h7 ?_
    refine wp_ifneB hk rfl rfl (fun hb => ?_) (fun h => ?_)
    · rw [if_pos hb] at kk
      obtain ⟨ha1, ha2⟩ := i2n_of (by omega) ha
      obtain ⟨hb1, hb2⟩ := i2n_of (by omega) hb
      rw [ha2, hb2]
      generalize i2n a = r at ha1 kk ⊢
      generalize i2n b = set at hb1 kk ⊢
      have hset : set < 128 := by omega
      repeat (first | refine wp_s hk rfl rfl ?_ | refine wp_goto hk rfl ?_ | refine wp_geti hk rfl rfl rfl rfl ?_ | refine wp_getr hk rfl rfl rfl rfl ?_)
      refine wp_qld (jx := r) hk rfl rfl rfl rfl (zcs_at r ha1) (by decide) ?_
      repeat (first | refine wp_s hk rfl rfl ?_ | refine wp_goto hk rfl ?_ | refine wp_geti hk rfl rfl rfl rfl ?_ | refine wp_getr hk rfl rfl rfl rfl ?_)
      refine wp_callV hk rfl rfl rfl rfl rfl rfl ?_
      refine k_noteMind I.1 O.1 (ZShR r ha1) (Or.inr (by omega)) (I.2.2.1 r ha1) (O.2.2.1 r ha1) hset (fun M1 K1 _ n1 => ?_)
      have loop := q_dn (n := vn (sV S)) (P := fun j => ∀ M2, Kp M M2 scr → ndM M2 (sV S) (sR S r) set → (∀ i, i < j → ndM M2 (sV S) (sR S r) (set ^^^ 2 ^ i)) → WP 130 21 [some (.ref 0), some (.int (nI r)), some (.int (nI set)), some (.int (nI j))] [] M2 Q) (by
        intro M2 K2 n2 n3
        have I2 := I.kp O K2
        repeat (first | refine wp_s hk rfl rfl ?_ | refine wp_goto hk rfl ?_ | refine wp_geti hk rfl rfl rfl rfl ?_ | refine wp_getr hk rfl rfl rfl rfl ?_)
        refine wp_callV hk rfl rfl rfl rfl rfl rfl ?_
        refine c_judges CSh1 I2.1 ?_
        refine wp_icgeN (u := vn (sV S)) (v := vn (sV S)) hk rfl rfl rfl (by omega) (by omega) (fun _ => ?_) (fun h => absurd h (by omega))
        repeat (first | refine wp_s hk rfl rfl ?_ | refine wp_goto hk rfl ?_ | refine wp_geti hk rfl rfl rfl rfl ?_ | refine wp_getr hk rfl rfl rfl rfl ?_)
        refine wp_callV hk rfl rfl rfl rfl rfl rfl ?_
        refine y_atRest I2.1 O.1 hset n2 n3 ?_
        have hkk := kk M2 K2
        refine wp_ifeqB hk rfl rfl (fun y => ?_) (fun y => ?_)
        · rw [y] at hkk
          repeat (first | refine wp_s hk rfl rfl ?_ | refine wp_goto hk rfl ?_ | refine wp_geti hk rfl rfl rfl rfl ?_ | refine wp_getr hk rfl rfl rfl rfl ?_)
          exact wp_ir hk rfl rfl hkk
        · rw [y] at hkk
          repeat (first | refine wp_s hk rfl rfl ?_ | refine wp_goto hk rfl ?_ | refine wp_geti hk rfl rfl rfl rfl ?_ | refine wp_getr hk rfl rfl rfl rfl ?_)
          exact wp_ir hk rfl rfl hkk) (by
        intro j hj ih M2 K2 n2 n3
        have I2 := I.kp O K2
        repeat (first | refine wp_s hk rfl rfl ?_ | refine wp_goto hk rfl ?_ | refine wp_geti hk rfl rfl rfl rfl ?_ | refine wp_getr hk rfl rfl rfl rfl ?_)
        refine wp_callV hk rfl rfl rfl rfl rfl rfl ?_
        refine c_judges CSh1 I2.1 ?_
        refine wp_icgeN (u := j) (v := vn (sV S)) hk rfl rfl rfl (by omega) (by omega) (fun h => absurd h (by omega)) (fun _ => ?_)
        repeat (first | refine wp_s hk rfl rfl ?_ | refine wp_goto hk rfl ?_ | refine wp_geti hk rfl rfl rfl rfl ?_ | refine wp_getr hk rfl rfl rfl rfl ?_)
        refine wp_qld (jx := r) hk rfl rfl rfl rfl (zcs_at r ha1) (by decide) ?_
        repeat (first | refine wp_s hk rfl rfl ?_ | refine wp_goto hk rfl ?_ | refine wp_geti hk rfl rfl rfl rfl ?_ | refine wp_getr hk rfl rfl rfl rfl ?_)
        rw [q_shl1 j (by omega), q_nxor]
        refine wp_callV hk rfl rfl rfl rfl rfl rfl ?_
        refine k_noteMind I2.1 O.1 (ZShR r ha1) (Or.inr (by omega)) (I2.2.2.1 r ha1) (O.2.2.1 r ha1) (xor_lt hset (by omega)) (fun M3 K3 o3 n4 => ?_)
        refine wp_s hk rfl rfl ?_
        refine wp_goto hk rfl ?_
        rw [q_nadd j 1]
        refine ih M3 (K2.tr (K3.mono (by decide))) (n2.keep n4 o3) (fun i hi => ?_)
        by_cases e : i = j
        · subst e; exact n4
        · exact (n3 i (by omega)).keep n4 o3)
      refine wp_s hk rfl rfl ?_
      refine wp_s hk rfl rfl ?_
      exact loop 0 (Nat.zero_le _) M1 (K1.mono (by decide)) n1 (fun i hi => absurd hi (Nat.not_lt_zero _))
    · rw [h] at kk
      repeat (first | refine wp_s hk rfl rfl ?_ | refine wp_goto hk rfl ?_ | refine wp_geti hk rfl rfl rfl rfl ?_ | refine wp_getr hk rfl rfl rfl rfl ?_)
      exact wp_ir hk rfl rfl (kk M (Kp.rf _ _))
  · rw [h] at kk
    repeat (first | refine wp_s hk rfl rfl ?_ | refine wp_goto hk rfl ?_ | refine wp_geti hk rfl rfl rfl rfl ?_ | refine wp_getr hk rfl rfl rfl rfl ?_)
    exact wp_ir hk rfl rfl (kk M (Kp.rf _ _))
theorem k_rests {told : Bool} {a : Int32} (I : ClsInv M S) (O : StOK S) (kk : ∀ M', Kp M M' scr → Q (some (.int (spRests S told a))) M') : Ca 131 [.ref 0, .int a, .int (nI (b2n told))] M Q := by
  have h7 := O.1.2.1
  have h128 := pow_n h7
  unfold spRests at kk
  have hk : q_cd 131 = kd_X8_rests := rfl
  show WP 131 0 [some (.ref 0), some (.int a), some (.int (nI (b2n told))), none, none] [] M Q
  repeat (first | refine wp_s hk rfl rfl ?_ | refine wp_goto hk rfl ?_ | refine wp_geti hk rfl rfl rfl rfl ?_ | refine wp_getr hk rfl rfl rfl rfl ?_)
  refine wp_callV hk rfl rfl rfl rfl rfl rfl ?_
  refine k_isRule ?_
  refine wp_ifneB hk rfl rfl (fun ha => ?_) (fun h => ?_)
  · rw [if_pos ha] at kk
    obtain ⟨ha1, ha2⟩ := i2n_of (by omega) ha
    rw [ha2]
    generalize i2n a = r at ha1 kk ⊢
    obtain ⟨f, hf⟩ : ∃ f : Nat → Bool, f = atR (sV S) (sR S r) := ⟨_, rfl⟩
    rw [← hf] at kk
    have l2 : ∀ M1, Kp M M1 scr → (∀ x, x < 2 ^ vn (sV S) → ndM M1 (sV S) (sR S r) x) → WP 131 22 [some (.ref 0), some (.int (nI r)), some (.int (nI (b2n told))), some (.int (nI (2 ^ vn (sV S)))), none] [] M1 Q := by
      intro M1 K1 n1
      have I1 := I.kp O K1
      have hkk := kk M1 K1
      have loop := q_dn (n := 2 ^ vn (sV S)) (P := fun x => (told = true → fsW f x = none) → WP 131 26 [some (.ref 0), some (.int (nI r)), some (.int (nI (b2n told))), some (.int (nI (cnW f x))), some (.int (nI x))] [] M1 Q) (by
        intro hn
        repeat (first | refine wp_s hk rfl rfl ?_ | refine wp_goto hk rfl ?_ | refine wp_geti hk rfl rfl rfl rfl ?_ | refine wp_getr hk rfl rfl rfl rfl ?_)
        refine wp_callV hk rfl rfl rfl rfl rfl rfl ?_
        refine c_judgeSets CSh1 I1.1 h7 ?_
        refine wp_icgeN (u := 2 ^ vn (sV S)) (v := 2 ^ vn (sV S)) hk rfl rfl rfl (by omega) (by omega) (fun _ => ?_) (fun h => absurd h (by omega))
        repeat (first | refine wp_s hk rfl rfl ?_ | refine wp_goto hk rfl ?_ | refine wp_geti hk rfl rfl rfl rfl ?_ | refine wp_getr hk rfl rfl rfl rfl ?_)
        refine wp_ifeqB (u := told) hk rfl rfl (fun y => ?_) (fun y => ?_)
        · rw [y, if_neg Bool.false_ne_true] at hkk
          repeat (first | refine wp_s hk rfl rfl ?_ | refine wp_goto hk rfl ?_ | refine wp_geti hk rfl rfl rfl rfl ?_ | refine wp_getr hk rfl rfl rfl rfl ?_)
          exact wp_ir hk rfl rfl hkk
        · rw [if_pos y, hn y] at hkk
          repeat (first | refine wp_s hk rfl rfl ?_ | refine wp_goto hk rfl ?_ | refine wp_geti hk rfl rfl rfl rfl ?_ | refine wp_getr hk rfl rfl rfl rfl ?_)
          exact wp_ir hk rfl rfl hkk) (by
        intro x hx ih hn
        rw [show cnW f (x + 1) = cnW f x + (if f x = true then 1 else 0) from rfl] at ih
        repeat (first | refine wp_s hk rfl rfl ?_ | refine wp_goto hk rfl ?_ | refine wp_geti hk rfl rfl rfl rfl ?_ | refine wp_getr hk rfl rfl rfl rfl ?_)
        refine wp_callV hk rfl rfl rfl rfl rfl rfl ?_
        refine c_judgeSets CSh1 I1.1 h7 ?_
        refine wp_icgeN (u := x) (v := 2 ^ vn (sV S)) hk rfl rfl rfl (by omega) (by omega) (fun h => absurd h (by omega)) (fun _ => ?_)
        repeat (first | refine wp_s hk rfl rfl ?_ | refine wp_goto hk rfl ?_ | refine wp_geti hk rfl rfl rfl rfl ?_ | refine wp_getr hk rfl rfl rfl rfl ?_)
        refine wp_callV hk rfl rfl rfl rfl rfl rfl ?_
        refine y_atRest I1.1 O.1 (by omega) (n1 x hx) (fun j hj => n1 _ (Nat.xor_lt_two_pow hx (Nat.pow_lt_pow_right (by omega) hj))) ?_
        rw [← hf]
        refine wp_ifeqB hk rfl rfl (fun y => ?_) (fun y => ?_)
        · rw [if_neg (by rw [y]; exact Bool.false_ne_true), Nat.add_zero] at ih
          refine wp_s hk rfl rfl ?_
          refine wp_goto hk rfl ?_
          rw [q_nadd x 1]
          exact ih (fun ht => by rw [fsW, hn ht]; exact if_neg (by rw [y]; exact Bool.false_ne_true))
        · rw [if_pos y] at ih
          refine wp_s hk rfl rfl ?_
          refine wp_ifeqB (u := told) hk rfl rfl (fun w => ?_) (fun w => ?_)
          · refine wp_s hk rfl rfl ?_
            refine wp_s hk rfl rfl ?_
            refine wp_goto hk rfl ?_
            rw [q_nadd x 1, q_nadd _ 1]
            exact ih (fun ht => by rw [w] at ht; cases ht)
          · have hs := fsW_some (hn w) y (2 ^ vn (sV S) - (x + 1))
            rw [show x + 1 + (2 ^ vn (sV S) - (x + 1)) = 2 ^ vn (sV S) by omega] at hs
            rw [if_pos w, hs] at hkk
            repeat (first | refine wp_s hk rfl rfl ?_ | refine wp_goto hk rfl ?_ | refine wp_geti hk rfl rfl rfl rfl ?_ | refine wp_getr hk rfl rfl rfl rfl ?_)
            exact wp_ir hk rfl rfl hkk)
      refine wp_s hk rfl rfl ?_
      refine wp_s hk rfl rfl ?_
      refine wp_s hk rfl rfl ?_
      refine wp_s hk rfl rfl ?_
      exact loop 0 (Nat.zero_le _) (fun _ => rfl)
    have l1 := q_dn (n := 2 ^ vn (sV S)) (P := fun x => ∀ M1, Kp M M1 scr → (∀ y, y < x → ndM M1 (sV S) (sR S r) y) → WP 131 8 [some (.ref 0), some (.int (nI r)), some (.int (nI (b2n told))), some (.int (nI x)), none] [] M1 Q) (by
      intro M1 K1 n1
      have I1 := I.kp O K1
      repeat (first | refine wp_s hk rfl rfl ?_ | refine wp_goto hk rfl ?_ | refine wp_geti hk rfl rfl rfl rfl ?_ | refine wp_getr hk rfl rfl rfl rfl ?_)
      refine wp_callV hk rfl rfl rfl rfl rfl rfl ?_
      refine c_judgeSets CSh1 I1.1 h7 ?_
      refine wp_icgeN (u := 2 ^ vn (sV S)) (v := 2 ^ vn (sV S)) hk rfl rfl rfl (by omega) (by omega) (fun _ => ?_) (fun h => absurd h (by omega))
      exact l2 M1 K1 n1) (by
      intro x hx ih M1 K1 n1
      have I1 := I.kp O K1
      repeat (first | refine wp_s hk rfl rfl ?_ | refine wp_goto hk rfl ?_ | refine wp_geti hk rfl rfl rfl rfl ?_ | refine wp_getr hk rfl rfl rfl rfl ?_)
      refine wp_callV hk rfl rfl rfl rfl rfl rfl ?_
      refine c_judgeSets CSh1 I1.1 h7 ?_
      refine wp_icgeN (u := x) (v := 2 ^ vn (sV S)) hk rfl rfl rfl (by omega) (by omega) (fun h => absurd h (by omega)) (fun _ => ?_)
      repeat (first | refine wp_s hk rfl rfl ?_ | refine wp_goto hk rfl ?_ | refine wp_geti hk rfl rfl rfl rfl ?_ | refine wp_getr hk rfl rfl rfl rfl ?_)
      refine wp_qld (jx := r) hk rfl rfl rfl rfl (zcs_at r ha1) (by decide) ?_
      repeat (first | refine wp_s hk rfl rfl ?_ | refine wp_goto hk rfl ?_ | refine wp_geti hk rfl rfl rfl rfl ?_ | refine wp_getr hk rfl rfl rfl rfl ?_)
      refine wp_callV hk rfl rfl rfl rfl rfl rfl ?_
      refine k_noteMind I1.1 O.1 (ZShR r ha1) (Or.inr (by omega)) (I1.2.2.1 r ha1) (O.2.2.1 r ha1) (by omega) (fun M2 K2 o2 n2 => ?_)
      refine wp_s hk rfl rfl ?_
      refine wp_goto hk rfl ?_
      rw [q_nadd x 1]
      refine ih M2 (K1.tr (K2.mono (by decide))) (fun y hy => ?_)
      by_cases e : y = x
      · subst e; exact n2
      · exact (n1 y (by omega)).keep n2 o2)
    refine wp_s hk rfl rfl ?_
    refine wp_s hk rfl rfl ?_
    exact l1 0 (Nat.zero_le _) M (Kp.rf _ _) (fun y hy => absurd hy (Nat.not_lt_zero _))
  · rw [h] at kk
    repeat (first | refine wp_s hk rfl rfl ?_ | refine wp_goto hk rfl ?_ | refine wp_geti hk rfl rfl rfl rfl ?_ | refine wp_getr hk rfl rfl rfl rfl ?_)
    exact wp_ir hk rfl rfl (kk M (Kp.rf _ _))
end PUB9
