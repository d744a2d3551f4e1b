theorem q_okM_all (k : Nat) (hk : k < 205) : q_okM k = true := sorry
theorem q_okE_at (k : Nat) (hk : k ≤ 205) (i : Nat) (e : q_Ent) (h : (q_cd k)[i]? = some e) : q_okE k (q_cd k) i e = true := sorry
theorem q_cd0 (k : Nat) (hk : k ≤ 205) : ∃ e, (q_cd k)[0]? = some e ∧ e.1 = 0 := sorry
