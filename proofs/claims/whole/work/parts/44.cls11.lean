def ptD (M : MM) (z : Nat) (T : Nat × (Nat → Nat)) (n i p : Nat) : Prop := M (z + 1) p = nI ((kdW (T.2 i)).getD 0) ∧ ((kdW (T.2 i)).getD 0 = 0 → M (z + 2) p = nI (T.2 (i + 1) - 48)) ∧ ((kdW (T.2 i)).getD 0 = 4 → ∀ j, j < 7 → M (z + 3) (7 * p + j) = nI (if j < n then T.2 (i + 1 + j) - 48 else 0))
section READ2
variable {M : MM} {z : Nat} {T : Nat × (Nat → Nat)} {Q : Option Value → MM → Prop}
theorem z_readPart {p i n : Nat} (hz : ZSh z) (hz9 : 10 < z) (H : TextIs M T) (hT : T.1 ≤ 16) (hB : ∀ i, i < T.1 → T.2 i < 256) (hp : p < 3) (hi : i < 90) (hn : n ≤ 7) (h3 : M z 3 = nI p) (h4 : M z 4 = nI i)
    (kk : ∀ M', Kp M M' [z, z + 1, z + 2, z + 3] → belZ z M M' p → M' z 3 = nI p → M' z 4 = nI (paW T n i).1 → ((paW T n i).2 = true → ptD M' z T n i p) → Q (some (.int (nI (b2n (paW T n i).2)))) M') : Ca 77 [.ref z, .ref 9, .int (nI n)] M Q := by
  have hz' := hz
  obtain ⟨hS, hA, hB', hC⟩ := hz
  have hk : q_cd 77 = kd_X5_readPart := rfl
  show WP 77 0 [some (.ref z), some (.ref 9), some (.int (nI n))] [] M Q
  repeat (first | refine wp_s hk rfl rfl ?_ | refine wp_goto hk rfl ?_ | refine wp_geti hk rfl rfl rfl rfl ?_ | refine wp_getr hk rfl rfl rfl rfl ?_ | refine wp_geti hk rfl hS rfl rfl ?_ | refine wp_getr hk rfl hS rfl rfl ?_)
  rw [h3, h4]
  refine wp_callV hk rfl rfl rfl rfl rfl rfl ?_
  refine x_byteAt H hT (by omega) ?_
  have none_ : ∀ v, v = NON → paW T n i = (i, false) → WP 77 9 [some (.ref z), some (.ref 9), some (.int (nI n))] [.int v, .int (nI p), .ref (z + 1)] M Q := by
    intro v hv hpa
    refine wp_ast (jx := p) hk rfl hA rfl (by omega) ?_
    repeat (first | refine wp_s hk rfl rfl ?_ | refine wp_goto hk rfl ?_ | refine wp_geti hk rfl rfl rfl rfl ?_ | refine wp_getr hk rfl rfl rfl rfl ?_ | refine wp_geti hk rfl hS rfl rfl ?_ | refine wp_getr hk rfl hS rfl rfl ?_)
    rw [q_up_ne _ _ (show z ≠ z + 1 by omega), h3]
    refine wp_ald (jx := p) hk rfl hA rfl (by omega) ?_
    rw [q_up_at, upd_at, hv]
    repeat (first | refine wp_s hk rfl rfl ?_ | refine wp_goto hk rfl ?_ | refine wp_geti hk rfl rfl rfl rfl ?_ | refine wp_getr hk rfl rfl rfl rfl ?_ | refine wp_geti hk rfl hS rfl rfl ?_ | refine wp_getr hk rfl hS rfl rfl ?_)
    refine wp_icne hk rfl (fun y => absurd rfl y) (fun _ => ?_)
    repeat (first | refine wp_s hk rfl rfl ?_ | refine wp_goto hk rfl ?_ | refine wp_geti hk rfl rfl rfl rfl ?_ | refine wp_getr hk rfl rfl rfl rfl ?_ | refine wp_geti hk rfl hS rfl rfl ?_ | refine wp_getr hk rfl hS rfl rfl ?_)
    have := kk _ ((Kp.rf _ _).up (i := z + 1) (f := upd (M (z + 1)) p NON) (by simp)) ((belZ.rf _ _ _).u1 (Nat.le_refl _)) (by rw [q_up_ne _ _ (by omega)]; exact h3) (by rw [q_up_ne _ _ (by omega), hpa]; exact h4) (fun y => by rw [hpa] at y; cases y)
    rw [hpa] at this
    exact wp_ir hk rfl rfl this
  by_cases hlt : i < T.1
  · have hb := hB i hlt
    rw [if_pos hlt]
    refine wp_callS hk rfl rfl rfl rfl ?_
    refine z_kindBy hb ?_
    cases hkd : kdW (T.2 i) with
    | none => exact none_ _ rfl (by unfold paW; rw [if_pos hlt, hkd])
    | some k =>
      have k4 := kdW_le hkd
      have hg : (kdW (T.2 i)).getD 0 = k := by rw [hkd]; rfl
      have hpa : paW T n i = if k = 0 then (if fgOk T (i + 1) 3 = true then (i + 2, true) else (i + 1, false)) else if k = 4 then (i + 1 + fgN T (i + 1) n, decide (fgN T (i + 1) n = n)) else (i + 1, true) := by
        unfold paW
        rw [if_pos hlt, hkd]
      refine wp_ast (jx := p) hk rfl hA rfl (by omega) ?_
      change WP 77 _ _ _ (q_up M (z + 1) (upd (M (z + 1)) p (nI k))) _
      repeat (first | refine wp_s hk rfl rfl ?_ | refine wp_goto hk rfl ?_ | refine wp_geti hk rfl rfl rfl rfl ?_ | refine wp_getr hk rfl rfl rfl rfl ?_ | refine wp_geti hk rfl hS rfl rfl ?_ | refine wp_getr hk rfl hS rfl rfl ?_)
      rw [q_up_ne _ _ (show z ≠ z + 1 by omega), h3]
      refine wp_ald (jx := p) hk rfl hA rfl (by omega) ?_
      rw [q_up_at, upd_at]
      repeat (first | refine wp_s hk rfl rfl ?_ | refine wp_goto hk rfl ?_ | refine wp_geti hk rfl rfl rfl rfl ?_ | refine wp_getr hk rfl rfl rfl rfl ?_ | refine wp_geti hk rfl hS rfl rfl ?_ | refine wp_getr hk rfl hS rfl rfl ?_)
      refine wp_icne hk rfl (fun _ => ?_) (fun y => absurd (Classical.not_not.mp y) (q_non k (by omega)))
      repeat (first | refine wp_s hk rfl rfl ?_ | refine wp_goto hk rfl ?_ | refine wp_geti hk rfl rfl rfl rfl ?_ | refine wp_getr hk rfl rfl rfl rfl ?_ | refine wp_geti hk rfl hS rfl rfl ?_ | refine wp_getr hk rfl hS rfl rfl ?_)
      rw [q_up_ne _ _ (show z ≠ z + 1 by omega), h4, q_nadd]
      refine wp_put hk rfl hS rfl rfl rfl ?_
      change WP 77 _ _ _ (q_up (q_up M (z + 1) (upd (M (z + 1)) p (nI k))) z (upd ((q_up M (z + 1) (upd (M (z + 1)) p (nI k))) z) 4 (nI (i + 1)))) _
      have K2 : Kp M (q_up (q_up M (z + 1) (upd (M (z + 1)) p (nI k))) z (upd ((q_up M (z + 1) (upd (M (z + 1)) p (nI k))) z) 4 (nI (i + 1)))) [z, z + 1, z + 2, z + 3] := ((Kp.rf _ _).up (by simp)).up (by simp)
      have b2 : belZ z M (q_up (q_up M (z + 1) (upd (M (z + 1)) p (nI k))) z (upd ((q_up M (z + 1) (upd (M (z + 1)) p (nI k))) z) 4 (nI (i + 1)))) p := ((belZ.rf _ _ _).u1 (Nat.le_refl _)).u0
      have e3 : (q_up (q_up M (z + 1) (upd (M (z + 1)) p (nI k))) z (upd ((q_up M (z + 1) (upd (M (z + 1)) p (nI k))) z) 4 (nI (i + 1)))) z 3 = nI p := by rw [qput, if_neg (by decide), q_up_ne _ _ (by omega)]; exact h3
      have e4 : (q_up (q_up M (z + 1) (upd (M (z + 1)) p (nI k))) z (upd ((q_up M (z + 1) (upd (M (z + 1)) p (nI k))) z) 4 (nI (i + 1)))) z 4 = nI (i + 1) := by rw [qput, if_pos rfl]
      have e1 : (q_up (q_up M (z + 1) (upd (M (z + 1)) p (nI k))) z (upd ((q_up M (z + 1) (upd (M (z + 1)) p (nI k))) z) 4 (nI (i + 1)))) (z + 1) p = nI k := by rw [q_up_ne _ _ (by omega), q_up_at, upd_at]
      generalize q_up (q_up M (z + 1) (upd (M (z + 1)) p (nI k))) z (upd ((q_up M (z + 1) (upd (M (z + 1)) p (nI k))) z) 4 (nI (i + 1))) = M2 at K2 b2 e3 e4 e1 ⊢
      have H2 := H.kp K2 (by simp; omega) (by simp; omega)
      repeat (first | refine wp_s hk rfl rfl ?_ | refine wp_goto hk rfl ?_ | refine wp_geti hk rfl rfl rfl rfl ?_ | refine wp_getr hk rfl rfl rfl rfl ?_ | refine wp_geti hk rfl hS rfl rfl ?_ | refine wp_getr hk rfl hS rfl rfl ?_)
      rw [e3]
      refine wp_ald (jx := p) hk rfl hA rfl (by omega) ?_
      rw [e1]
      have hc : k = 0 ∨ k = 4 ∨ (¬ k = 0 ∧ ¬ k = 4) := by omega
      rcases hc with rfl | rfl | ⟨n0, n4⟩
      · refine wp_lok hk rfl (t := 31) (by rfl) ?_
        repeat (first | refine wp_s hk rfl rfl ?_ | refine wp_goto hk rfl ?_ | refine wp_geti hk rfl rfl rfl rfl ?_ | refine wp_getr hk rfl rfl rfl rfl ?_)
        refine wp_callV hk rfl rfl rfl rfl hS rfl ?_
        refine z_readStrike hz' hz9 H2 hT hB hp (by omega) e3 e4 (fun M3 K3 b3 f3 f1 f4 fd => ?_)
        rw [if_pos rfl] at hpa
        have kk3 := kk M3 (K2.tr K3) (b2.tr b3) f3
        rw [hpa] at kk3
        cases hok : fgOk T (i + 1) 3 with
        | true =>
          rw [hok, if_pos rfl] at kk3
          rw [hok, if_pos rfl] at f4
          exact wp_ir hk rfl rfl (kk3 f4 (fun _ => ⟨by rw [hg, f1]; exact e1, fun _ => fd hok, fun y => by rw [hg] at y; cases y⟩))
        | false =>
          rw [hok, if_neg Bool.false_ne_true] at kk3
          rw [hok, if_neg Bool.false_ne_true] at f4
          exact wp_ir hk rfl rfl (kk3 f4 (fun y => by cases y))
      · refine wp_lok hk rfl (t := 35) (by rfl) ?_
        repeat (first | refine wp_s hk rfl rfl ?_ | refine wp_goto hk rfl ?_ | refine wp_geti hk rfl rfl rfl rfl ?_ | refine wp_getr hk rfl rfl rfl rfl ?_)
        refine wp_callV hk rfl rfl rfl rfl hS rfl ?_
        refine z_readFigures hz' hz9 H2 hT hB hp (by omega) hn e3 e4 (fun M3 K3 b3 f3 f1 f4 fd => ?_)
        rw [if_neg (by decide), if_pos rfl] at hpa
        have kk3 := kk M3 (K2.tr K3) (b2.tr b3) f3
        rw [hpa] at kk3
        exact wp_ir hk rfl (q_rokB _) (kk3 f4 (fun y => ⟨by rw [hg, f1]; exact e1, (fun y => by rw [hg] at y; cases y), fun _ => fd (of_decide_eq_true y)⟩))
      · have hoff : WP 77 40 [some (.ref z), some (.ref 9), some (.int (nI n))] [] M2 Q := by
          rw [if_neg n0, if_neg n4] at hpa
          have kk3 := kk M2 K2 b2 e3
          rw [hpa] at kk3
          repeat (first | refine wp_s hk rfl rfl ?_ | refine wp_goto hk rfl ?_ | refine wp_geti hk rfl rfl rfl rfl ?_ | refine wp_getr hk rfl rfl rfl rfl ?_)
          exact wp_ir hk rfl rfl (kk3 e4 (fun _ => ⟨by rw [hg]; exact e1, fun y => absurd (hg ▸ y) n0, fun y => absurd (hg ▸ y) n4⟩))
        have hc : k = 1 ∨ k = 2 ∨ k = 3 := by omega
        rcases hc with rfl | rfl | rfl
        · exact wp_lok hk rfl (t := 40) (by rfl) hoff
        · exact wp_lok hk rfl (t := 40) (by rfl) hoff
        · exact wp_lok hk rfl (t := 40) (by rfl) hoff
  · rw [if_neg hlt]
    refine wp_callS hk rfl rfl rfl rfl ?_
    refine z_kindNo ?_
    exact none_ _ rfl (by unfold paW; rw [if_neg hlt])
end READ2
