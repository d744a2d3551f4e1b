/-! the class's rules: reading -/
def kdO (o : Option Nat) : Int := match o with
  | some 0 => 59
  | some 1 => 61
  | some 2 => 63
  | some 3 => 65
  | some 4 => 67
  | _ => 69
theorem q_kd : ∀ b, b < 256 → q_swo 77 87 69 #[61, 69, 69, 65, 69, 63, 59, 69, 69, 69, 67] (nI b) = some (kdO (kdW b)) := by decide +kernel
section SCHEME
variable {M : MM} {z : Nat} {R : Ru} {Q : Option Value → MM → Prop}
theorem z_kindBy {b : Nat} (hb : b < 256) (kk : Q (some (.int (fwV (kdW b)))) M) : Ca 74 [.int (nI b)] M Q := by
  have hk : q_cd 74 = kd_X5_kindBy := rfl
  show WP 74 0 [some (.int (nI b))] [] M Q
  repeat (first | refine wp_s hk rfl rfl ?_ | refine wp_goto hk rfl ?_ | refine wp_geti hk rfl rfl rfl rfl ?_ | refine wp_getr hk rfl rfl rfl rfl ?_)
  have hq := q_kd b hb
  cases hk2 : kdW b with
  | none =>
    rw [hk2] at kk hq
    refine wp_tab hk rfl (off := 69) hq rfl ?_
    repeat (first | refine wp_s hk rfl rfl ?_ | refine wp_goto hk rfl ?_ | refine wp_geti hk rfl rfl rfl rfl ?_ | refine wp_getr hk rfl rfl rfl rfl ?_)
    exact wp_ir hk rfl rfl kk
  | some k =>
    have hk4 : k ≤ 4 := kdW_le hk2
    rw [hk2] at kk hq
    have hc : k = 0 ∨ k = 1 ∨ k = 2 ∨ k = 3 ∨ k = 4 := by omega
    rcases hc with rfl | rfl | rfl | rfl | rfl
    · refine wp_tab hk rfl (off := 59) hq rfl ?_
      repeat (first | refine wp_s hk rfl rfl ?_ | refine wp_goto hk rfl ?_ | refine wp_geti hk rfl rfl rfl rfl ?_ | refine wp_getr hk rfl rfl rfl rfl ?_)
      exact wp_ir hk rfl rfl kk
    · refine wp_tab hk rfl (off := 61) hq rfl ?_
      repeat (first | refine wp_s hk rfl rfl ?_ | refine wp_goto hk rfl ?_ | refine wp_geti hk rfl rfl rfl rfl ?_ | refine wp_getr hk rfl rfl rfl rfl ?_)
      exact wp_ir hk rfl rfl kk
    · refine wp_tab hk rfl (off := 63) hq rfl ?_
      repeat (first | refine wp_s hk rfl rfl ?_ | refine wp_goto hk rfl ?_ | refine wp_geti hk rfl rfl rfl rfl ?_ | refine wp_getr hk rfl rfl rfl rfl ?_)
      exact wp_ir hk rfl rfl kk
    · refine wp_tab hk rfl (off := 65) hq rfl ?_
      repeat (first | refine wp_s hk rfl rfl ?_ | refine wp_goto hk rfl ?_ | refine wp_geti hk rfl rfl rfl rfl ?_ | refine wp_getr hk rfl rfl rfl rfl ?_)
      exact wp_ir hk rfl rfl kk
    · refine wp_tab hk rfl (off := 67) hq rfl ?_
      repeat (first | refine wp_s hk rfl rfl ?_ | refine wp_goto hk rfl ?_ | refine wp_geti hk rfl rfl rfl rfl ?_ | refine wp_getr hk rfl rfl rfl rfl ?_)
      exact wp_ir hk rfl rfl kk
theorem z_kindNo (kk : Q (some (.int NON)) M) : Ca 74 [.int NON] M Q := by
  have hk : q_cd 74 = kd_X5_kindBy := rfl
  show WP 74 0 [some (.int NON)] [] M Q
  repeat (first | refine wp_s hk rfl rfl ?_ | refine wp_goto hk rfl ?_ | refine wp_geti hk rfl rfl rfl rfl ?_ | refine wp_getr hk rfl rfl rfl rfl ?_)
  refine wp_tab hk rfl (off := 69) (by rfl) rfl ?_
  repeat (first | refine wp_s hk rfl rfl ?_ | refine wp_goto hk rfl ?_ | refine wp_geti hk rfl rfl rfl rfl ?_ | refine wp_getr hk rfl rfl rfl rfl ?_)
  exact wp_ir hk rfl rfl kk
theorem z_hasPart {x : Int32} (hz : ZSh z) (H : SchIs M z R) (kk : Q (some (.int (nI (b2n (isN x R.1))))) M) : Ca 71 [.ref z, .int x] M Q := by
  obtain ⟨hS, hA, hB, hC⟩ := hz
  have hk : q_cd 71 = kd_X5_hasPart := rfl
  show WP 71 0 [some (.ref z), some (.int x)] [] M Q
  repeat (first | refine wp_s hk rfl rfl ?_ | refine wp_goto hk rfl ?_ | refine wp_geti hk rfl rfl rfl rfl ?_ | refine wp_getr hk rfl rfl rfl rfl ?_ | refine wp_geti hk rfl hS rfl rfl ?_ | refine wp_getr hk rfl hS rfl rfl ?_)
  refine wp_iflt hk rfl (fun g => ?_) (fun g => ?_)
  · rw [isN_lo g] at kk
    repeat (first | refine wp_s hk rfl rfl ?_ | refine wp_goto hk rfl ?_ | refine wp_geti hk rfl rfl rfl rfl ?_ | refine wp_getr hk rfl rfl rfl rfl ?_ | refine wp_geti hk rfl hS rfl rfl ?_ | refine wp_getr hk rfl hS rfl rfl ?_)
    exact wp_ir hk rfl rfl kk
  · repeat (first | refine wp_s hk rfl rfl ?_ | refine wp_goto hk rfl ?_ | refine wp_geti hk rfl rfl rfl rfl ?_ | refine wp_getr hk rfl rfl rfl rfl ?_ | refine wp_geti hk rfl hS rfl rfl ?_ | refine wp_getr hk rfl hS rfl rfl ?_)
    rw [H.1]
    refine wp_icge hk rfl (fun f => ?_) (fun f => ?_)
    · rw [isN_hi f] at kk
      repeat (first | refine wp_s hk rfl rfl ?_ | refine wp_goto hk rfl ?_ | refine wp_geti hk rfl rfl rfl rfl ?_ | refine wp_getr hk rfl rfl rfl rfl ?_ | refine wp_geti hk rfl hS rfl rfl ?_ | refine wp_getr hk rfl hS rfl rfl ?_)
      exact wp_ir hk rfl rfl kk
    · rw [isN_in g f] at kk
      repeat (first | refine wp_s hk rfl rfl ?_ | refine wp_goto hk rfl ?_ | refine wp_geti hk rfl rfl rfl rfl ?_ | refine wp_getr hk rfl rfl rfl rfl ?_ | refine wp_geti hk rfl hS rfl rfl ?_ | refine wp_getr hk rfl hS rfl rfl ?_)
      exact wp_ir hk rfl rfl kk
theorem z_strikeAlone {k : Nat} (hz : ZSh z) (kk : ∀ M', Kp M M' [z, z + 1, z + 2] → SchIs M' z (ruS k) → Q none M') : Ca 72 [.ref z, .int (nI k)] M Q := by
  obtain ⟨hS, hA, hB, hC⟩ := hz
  have hk : q_cd 72 = kd_X5_strikeAlone := rfl
  show WP 72 0 [some (.ref z), some (.int (nI k))] [] M Q
  repeat (first | refine wp_s hk rfl rfl ?_ | refine wp_goto hk rfl ?_ | refine wp_geti hk rfl rfl rfl rfl ?_ | refine wp_getr hk rfl rfl rfl rfl ?_ | refine wp_geti hk rfl hS rfl rfl ?_ | refine wp_getr hk rfl hS rfl rfl ?_)
  refine wp_put hk rfl hS rfl rfl rfl ?_
  repeat (first | refine wp_s hk rfl rfl ?_ | refine wp_goto hk rfl ?_ | refine wp_geti hk rfl rfl rfl rfl ?_ | refine wp_getr hk rfl rfl rfl rfl ?_ | refine wp_geti hk rfl hS rfl rfl ?_ | refine wp_getr hk rfl hS rfl rfl ?_)
  refine wp_ast (jx := 0) hk rfl hA rfl (by omega) ?_
  repeat (first | refine wp_s hk rfl rfl ?_ | refine wp_goto hk rfl ?_ | refine wp_geti hk rfl rfl rfl rfl ?_ | refine wp_getr hk rfl rfl rfl rfl ?_ | refine wp_geti hk rfl hS rfl rfl ?_ | refine wp_getr hk rfl hS rfl rfl ?_)
  refine wp_ast (jx := 0) hk rfl hB rfl (by omega) ?_
  refine wp_vr hk rfl (kk _ ((((Kp.rf _ _).up (by simp)).up (by simp)).up (by simp)) ⟨?_, fun i hi => ?_, fun i hi _ => ?_, fun i hi h4 => ?_⟩)
  · rw [q_up_ne _ _ (by omega), q_up_ne _ _ (by omega), qput, if_pos rfl]; rfl
  · have : i = 0 := by have : i < 1 := hi; omega
    subst this
    rw [q_up_ne _ _ (by omega), q_up_at, upd_at]; rfl
  · have : i = 0 := by have : i < 1 := hi; omega
    subst this
    rw [q_up_at, upd_at]; rfl
  · have : (0 : Nat) = 4 := h4
    omega
end SCHEME
