theorem ptD.bel {M M' : MM} {z n i p x : Nat} {T : Nat × (Nat → Nat)} (h : ptD M z T n i x) (b : belZ z M M' p) (hx : x < p) : ptD M' z T n i x := ⟨by rw [(b.1 x hx).1]; exact h.1, fun y => by rw [(b.1 x hx).2]; exact h.2.1 y, fun y j hj => by rw [b.2 _ (by omega)]; exact h.2.2 y j hj⟩
theorem paW_len {T : Nat × (Nat → Nat)} {n i : Nat} (h : (paW T n i).2 = true) : (paW T n i).1 ≤ T.1 := by
  obtain ⟨h1, k, hk, h0, h4⟩ := paW_ok h
  unfold paW
  rw [if_pos h1, hk]
  show (if k = 0 then (if fgOk T (i + 1) 3 = true then (i + 2, true) else (i + 1, false)) else if k = 4 then (i + 1 + fgN T (i + 1) n, decide (fgN T (i + 1) n = n)) else (i + 1, true)).1 ≤ T.1
  by_cases k0 : k = 0
  · have := h0 k0
    rw [if_pos k0, if_pos this]
    simp only [fgOk, Bool.and_eq_true, decide_eq_true_eq] at this
    show i + 2 ≤ T.1
    omega
  · rw [if_neg k0]
    by_cases k4 : k = 4
    · have hf := h4 k4
      rw [if_pos k4, hf]
      show i + 1 + n ≤ T.1
      by_cases hn : n = 0
      · omega
      · have := fgN_ok hf (n - 1) (by omega)
        simp only [fgOk, Bool.and_eq_true, decide_eq_true_eq] at this
        omega
    · rw [if_neg k4]
      show i + 1 ≤ T.1
      omega
def zrH (Q : Option Value → MM → Prop) (T : Nat × (Nat → Nat)) (n z : Nat) (M : MM) (q p : Nat) : Prop := ∀ M1, Kp M M1 [z, z + 1, z + 2, z + 3] → M1 z 3 = nI p → M1 z 4 = nI (stP T n p) → (∀ x, x < p → ptD M1 z T n (stP T n x) x) → rdW T n (q + 1) p = rdW T n 3 0 → WP 79 6 [some (.ref z), some (.ref 9), some (.int (nI n))] [] M1 Q
theorem z_readStep {M : MM} {z n q p : Nat} {T : Nat × (Nat → Nat)} {Q : Option Value → MM → Prop} (hz : ZSh z) (hz9 : 10 < z) (H : TextIs M T) (hT : T.1 ≤ 16) (hB : ∀ i, i < T.1 → T.2 i < 256) (hn : n ≤ 7)
    (kk : ∀ M', Kp M M' [z, z + 1, z + 2, z + 3] → ((rdW T n 3 0).1 = none → SchIs M' z (ruT T n)) → Q (some (.int (fwV (rdW T n 3 0).1))) M')
    (hpq : p + (q + 1) = 3) (ihq : ∀ q', q = q' + 1 → zrH Q T n z M q' (p + 1)) : zrH Q T n z M q p := by
  intro M1 K1 h3 h4 hD hrd
  have hk : q_cd 79 = kd_X5_read := rfl
  have hz' := hz
  obtain ⟨hS, hA, hB', hC⟩ := hz
  have hst := stP_le (T := T) hn p
  obtain ⟨i, hi⟩ : ∃ i, i = stP T n p := ⟨_, rfl⟩
  rw [← hi] at h4 hst
  have hrd2 : rdW T n 3 0 = if (paW T n i).2 = true then (if (paW T n i).1 < T.1 then (if T.2 (paW T n i).1 = 47 ∧ ¬ q = 0 then rdW T n q (p + 1) else (some (paW T n i).1, p + 1)) else (none, p + 1)) else (some (paW T n i).1, p) := by rw [← hrd, hi]; rfl
  have ple := paW_le (T := T) (n := n) (i := i) hn
  have H1 := H.kp K1 (by simp; omega) (by simp; omega)
  repeat (first | refine wp_s hk rfl rfl ?_ | refine wp_goto hk rfl ?_ | refine wp_geti hk rfl rfl rfl rfl ?_ | refine wp_getr hk rfl rfl rfl rfl ?_ | refine wp_geti hk rfl hS rfl rfl ?_ | refine wp_getr hk rfl hS rfl rfl ?_)
  refine wp_icgeN (u := p) (v := 3) hk rfl h3 rfl (by omega) (by omega) (fun y => absurd y (by omega)) (fun _ => ?_)
  repeat (first | refine wp_s hk rfl rfl ?_ | refine wp_goto hk rfl ?_ | refine wp_geti hk rfl rfl rfl rfl ?_ | refine wp_getr hk rfl rfl rfl rfl ?_ | refine wp_geti hk rfl hS rfl rfl ?_ | refine wp_getr hk rfl hS rfl rfl ?_)
  refine wp_callV hk rfl rfl rfl rfl hS rfl ?_
  refine z_readPart hz' hz9 H1 hT hB (by omega) (by omega) hn h3 h4 (fun M2 K2 b2 f3 f4 fd => ?_)
  have K12 := K1.tr K2
  have H2 := H.kp K12 (by simp; omega) (by simp; omega)
  cases hok : (paW T n i).2 with
  | false =>
    rw [hok, if_neg Bool.false_ne_true] at hrd2
    refine wp_ifneB (u := false) hk rfl rfl (fun y => by cases y) (fun _ => ?_)
    repeat (first | refine wp_s hk rfl rfl ?_ | refine wp_goto hk rfl ?_ | refine wp_geti hk rfl rfl rfl rfl ?_ | refine wp_getr hk rfl rfl rfl rfl ?_ | refine wp_geti hk rfl hS rfl rfl ?_ | refine wp_getr hk rfl hS rfl rfl ?_)
    rw [f4]
    have := kk M2 K12
    rw [hrd2] at this
    exact wp_ir hk rfl rfl (this (fun y => by cases y))
  | true =>
    rw [hok, if_pos rfl] at hrd2
    have hlen := paW_len hok
    have hfd := fd hok
    generalize he : (paW T n i).1 = e at *
    have hD2 : ∀ x, x < p + 1 → ptD M2 z T n (stP T n x) x := fun x hx => by
      by_cases ex : x = p
      · subst ex; rw [← hi]; exact hfd
      · exact (hD x (by omega)).bel b2 (by omega)
    have K0 : ∀ (f : Nat → Int32) (MM0 : MM), belZ z MM0 (q_up MM0 z f) 99 := fun f MM0 => (belZ.rf _ _ _).u0
    have stop : ¬ (e < T.1 ∧ T.2 e = 47) → WP 79 38 [some (.ref z), some (.ref 9), some (.int (nI n))] [] M2 Q := by
      intro hno
      repeat (first | refine wp_s hk rfl rfl ?_ | refine wp_goto hk rfl ?_ | refine wp_geti hk rfl rfl rfl rfl ?_ | refine wp_getr hk rfl rfl rfl rfl ?_ | refine wp_geti hk rfl hS rfl rfl ?_ | refine wp_getr hk rfl hS rfl rfl ?_)
      refine wp_icneN (u := p) (v := 3) hk rfl f3 rfl (by omega) (by omega) (fun _ => ?_) (fun y => absurd (Classical.not_not.mp y) (by omega))
      repeat (first | refine wp_s hk rfl rfl ?_ | refine wp_goto hk rfl ?_ | refine wp_geti hk rfl rfl rfl rfl ?_ | refine wp_getr hk rfl rfl rfl rfl ?_ | refine wp_geti hk rfl hS rfl rfl ?_ | refine wp_getr hk rfl hS rfl rfl ?_)
      rw [f3, q_nadd]
      refine wp_put hk rfl hS rfl rfl rfl ?_
      have e3 : (q_up M2 z (upd (M2 z) 3 (nI (p + 1)))) z 3 = nI (p + 1) := by rw [qput, if_pos rfl]
      have e4 : (q_up M2 z (upd (M2 z) 3 (nI (p + 1)))) z 4 = nI e := by rw [qput, if_neg (by decide)]; exact f4
      have K3 : Kp M (q_up M2 z (upd (M2 z) 3 (nI (p + 1)))) [z, z + 1, z + 2, z + 3] := K12.up (by simp)
      have D3 : ∀ x, x < p + 1 → ptD (q_up M2 z (upd (M2 z) 3 (nI (p + 1)))) z T n (stP T n x) x := fun x hx => (hD2 x hx).bel (K0 _ _) (by omega)
      change WP 79 _ _ _ (q_up M2 z (upd (M2 z) 3 (nI (p + 1)))) _
      generalize q_up M2 z (upd (M2 z) 3 (nI (p + 1))) = M3 at e3 e4 K3 D3 ⊢
      have H3 := H.kp K3 (by simp; omega) (by simp; omega)
      repeat (first | refine wp_s hk rfl rfl ?_ | refine wp_goto hk rfl ?_ | refine wp_geti hk rfl rfl rfl rfl ?_ | refine wp_getr hk rfl rfl rfl rfl ?_ | refine wp_geti hk rfl hS rfl rfl ?_ | refine wp_getr hk rfl hS rfl rfl ?_)
      rw [e4]
      refine wp_callV hk rfl rfl rfl rfl rfl rfl ?_
      refine x_length H3 ?_
      refine wp_icneN (u := e) (v := T.1) hk rfl rfl rfl (by omega) (by omega) (fun y => ?_) (fun y => ?_)
      · have hr : rdW T n 3 0 = (some e, p + 1) := by rw [hrd2, if_pos (by omega), if_neg (fun w => hno ⟨by omega, w.1⟩)]
        have := kk M3 K3
        rw [hr] at this
        repeat (first | refine wp_s hk rfl rfl ?_ | refine wp_goto hk rfl ?_ | refine wp_geti hk rfl rfl rfl rfl ?_ | refine wp_getr hk rfl rfl rfl rfl ?_ | refine wp_geti hk rfl hS rfl rfl ?_ | refine wp_getr hk rfl hS rfl rfl ?_)
        rw [e4]
        exact wp_ir hk rfl rfl (this (fun y => by cases y))
      · have hr : rdW T n 3 0 = (none, p + 1) := by rw [hrd2, if_neg (by omega)]
        have hs : SchIs M3 z (ruT T n) := by
          have hP : (ruT T n).1 = p + 1 := by show (rdW T n 3 0).2 = p + 1; rw [hr]
          refine ⟨by rw [hP]; exact e3, fun x hx => (D3 x (by omega)).1, fun x hx h0 => (D3 x (by omega)).2.1 h0, fun x hx h0 j hj => (D3 x (by omega)).2.2 h0 j hj⟩
        have := kk M3 K3
        rw [hr] at this
        repeat (first | refine wp_s hk rfl rfl ?_ | refine wp_goto hk rfl ?_ | refine wp_geti hk rfl rfl rfl rfl ?_ | refine wp_getr hk rfl rfl rfl rfl ?_ | refine wp_geti hk rfl hS rfl rfl ?_ | refine wp_getr hk rfl hS rfl rfl ?_)
        exact wp_ir hk rfl rfl (this (fun _ => hs))
    refine wp_ifneB (u := true) hk rfl rfl (fun _ => ?_) (fun y => by cases y)
    repeat (first | refine wp_s hk rfl rfl ?_ | refine wp_goto hk rfl ?_ | refine wp_geti hk rfl rfl rfl rfl ?_ | refine wp_getr hk rfl rfl rfl rfl ?_ | refine wp_geti hk rfl hS rfl rfl ?_ | refine wp_getr hk rfl hS rfl rfl ?_)
    rw [f4]
    refine wp_callV hk rfl rfl rfl rfl rfl rfl ?_
    refine x_byteAt H2 hT (by omega) ?_
    by_cases hlt : e < T.1
    · have hb := hB e hlt
      rw [if_pos hlt]
      repeat (first | refine wp_s hk rfl rfl ?_ | refine wp_goto hk rfl ?_ | refine wp_geti hk rfl rfl rfl rfl ?_ | refine wp_getr hk rfl rfl rfl rfl ?_ | refine wp_geti hk rfl hS rfl rfl ?_ | refine wp_getr hk rfl hS rfl rfl ?_)
      refine wp_iceqN (u := T.2 e) (v := 47) hk rfl rfl rfl (by omega) (by omega) (fun y => ?_) (fun y => ?_)
      · repeat (first | refine wp_s hk rfl rfl ?_ | refine wp_goto hk rfl ?_ | refine wp_geti hk rfl rfl rfl rfl ?_ | refine wp_getr hk rfl rfl rfl rfl ?_ | refine wp_geti hk rfl hS rfl rfl ?_ | refine wp_getr hk rfl hS rfl rfl ?_)
        rw [f4, q_nadd]
        refine wp_put hk rfl hS rfl rfl rfl ?_
        repeat (first | refine wp_s hk rfl rfl ?_ | refine wp_goto hk rfl ?_ | refine wp_geti hk rfl rfl rfl rfl ?_ | refine wp_getr hk rfl rfl rfl rfl ?_ | refine wp_geti hk rfl hS rfl rfl ?_ | refine wp_getr hk rfl hS rfl rfl ?_)
        rw [qput, if_neg (by decide), f3, q_nadd]
        refine wp_put hk rfl hS rfl rfl rfl ?_
        refine wp_goto hk rfl ?_
        have K3 : Kp M (q_up (q_up M2 z (upd (M2 z) 4 (nI (e + 1)))) z (upd ((q_up M2 z (upd (M2 z) 4 (nI (e + 1)))) z) 3 (nI (p + 1)))) [z, z + 1, z + 2, z + 3] := (K12.up (by simp)).up (by simp)
        have e3 : (q_up (q_up M2 z (upd (M2 z) 4 (nI (e + 1)))) z (upd ((q_up M2 z (upd (M2 z) 4 (nI (e + 1)))) z) 3 (nI (p + 1)))) z 3 = nI (p + 1) := by rw [qput, if_pos rfl]
        have e4 : (q_up (q_up M2 z (upd (M2 z) 4 (nI (e + 1)))) z (upd ((q_up M2 z (upd (M2 z) 4 (nI (e + 1)))) z) 3 (nI (p + 1)))) z 4 = nI (e + 1) := by rw [qput, if_neg (by decide), qput, if_pos rfl]
        have D3 : ∀ x, x < p + 1 → ptD (q_up (q_up M2 z (upd (M2 z) 4 (nI (e + 1)))) z (upd ((q_up M2 z (upd (M2 z) 4 (nI (e + 1)))) z) 3 (nI (p + 1)))) z T n (stP T n x) x := fun x hx => ((hD2 x hx).bel (K0 _ _) (by omega)).bel (K0 _ _) (by omega)
        change WP 79 _ _ _ (q_up (q_up M2 z (upd (M2 z) 4 (nI (e + 1)))) z (upd ((q_up M2 z (upd (M2 z) 4 (nI (e + 1)))) z) 3 (nI (p + 1)))) _
        generalize q_up (q_up M2 z (upd (M2 z) 4 (nI (e + 1)))) z (upd ((q_up M2 z (upd (M2 z) 4 (nI (e + 1)))) z) 3 (nI (p + 1))) = M3 at e3 e4 K3 D3 ⊢
        rw [if_pos hlt] at hrd2
        by_cases q0 : q = 0
        · rw [if_neg (fun w => w.2 q0)] at hrd2
          repeat (first | refine wp_s hk rfl rfl ?_ | refine wp_goto hk rfl ?_ | refine wp_geti hk rfl rfl rfl rfl ?_ | refine wp_getr hk rfl rfl rfl rfl ?_ | refine wp_geti hk rfl hS rfl rfl ?_ | refine wp_getr hk rfl hS rfl rfl ?_)
          refine wp_icgeN (u := p + 1) (v := 3) hk rfl e3 rfl (by omega) (by omega) (fun _ => ?_) (fun w => absurd w (by omega))
          repeat (first | refine wp_s hk rfl rfl ?_ | refine wp_goto hk rfl ?_ | refine wp_geti hk rfl rfl rfl rfl ?_ | refine wp_getr hk rfl rfl rfl rfl ?_ | refine wp_geti hk rfl hS rfl rfl ?_ | refine wp_getr hk rfl hS rfl rfl ?_)
          refine wp_icneN (u := p + 1) (v := 3) hk rfl e3 rfl (by omega) (by omega) (fun w => absurd w (by omega)) (fun _ => ?_)
          repeat (first | refine wp_s hk rfl rfl ?_ | refine wp_goto hk rfl ?_ | refine wp_geti hk rfl rfl rfl rfl ?_ | refine wp_getr hk rfl rfl rfl rfl ?_ | refine wp_geti hk rfl hS rfl rfl ?_ | refine wp_getr hk rfl hS rfl rfl ?_)
          rw [e4, q_nsub (Nat.le_add_left 1 e), Nat.add_sub_cancel]
          have := kk M3 K3
          rw [hrd2] at this
          exact wp_ir hk rfl rfl (this (fun w => by cases w))
        · rw [if_pos ⟨y, q0⟩] at hrd2
          obtain ⟨q', hq'⟩ : ∃ q', q = q' + 1 := ⟨q - 1, by omega⟩
          have es : stP T n (p + 1) = e + 1 := by
            show (paW T n (stP T n p)).1 + 1 = e + 1
            rw [← hi, he]
          exact ihq q' hq' M3 K3 e3 (by rw [es]; exact e4) D3 (by rw [hrd2, hq'])
      · refine wp_goto hk rfl ?_
        exact stop (fun w => y w.2)
    · rw [if_neg hlt]
      repeat (first | refine wp_s hk rfl rfl ?_ | refine wp_goto hk rfl ?_ | refine wp_geti hk rfl rfl rfl rfl ?_ | refine wp_getr hk rfl rfl rfl rfl ?_ | refine wp_geti hk rfl hS rfl rfl ?_ | refine wp_getr hk rfl hS rfl rfl ?_)
      refine wp_iceq hk rfl (fun y => absurd y (by decide)) (fun _ => ?_)
      refine wp_goto hk rfl ?_
      exact stop (fun w => hlt w.1)
theorem z_read {M : MM} {z n : Nat} {T : Nat × (Nat → Nat)} {Q : Option Value → MM → Prop} (hz : ZSh z) (hz9 : 10 < z) (H : TextIs M T) (hT : T.1 ≤ 16) (hB : ∀ i, i < T.1 → T.2 i < 256) (hn : n ≤ 7)
    (kk : ∀ M', Kp M M' [z, z + 1, z + 2, z + 3] → ((rdW T n 3 0).1 = none → SchIs M' z (ruT T n)) → Q (some (.int (fwV (rdW T n 3 0).1))) M') : Ca 79 [.ref z, .ref 9, .int (nI n)] M Q := by
  have hz' := hz
  obtain ⟨hS, hA, hB', hC⟩ := hz
  have hk : q_cd 79 = kd_X5_read := rfl
  show WP 79 0 [some (.ref z), some (.ref 9), some (.int (nI n))] [] M Q
  have head : ∀ q p, p + (q + 1) = 3 → zrH Q T n z M q p := by
    intro q
    induction q with
    | zero => intro p hp; exact z_readStep hz' hz9 H hT hB hn kk hp (fun q' z => by cases z)
    | succ q ih => intro p hp; exact z_readStep hz' hz9 H hT hB hn kk hp (fun q' z => by cases z; exact ih (p + 1) (by omega))
  refine wp_s hk rfl rfl ?_
  refine wp_s hk rfl rfl ?_
  refine wp_put hk rfl hS rfl rfl rfl ?_
  refine wp_s hk rfl rfl ?_
  refine wp_s hk rfl rfl ?_
  refine wp_put hk rfl hS rfl rfl rfl ?_
  exact head 2 0 rfl _ (((Kp.rf _ _).up (by simp)).up (by simp)) (by rw [qput, if_pos rfl]) (by rw [qput, if_neg (by decide), qput, if_pos rfl]; rfl) (fun x hx => absurd hx (Nat.not_lt_zero _)) rfl
