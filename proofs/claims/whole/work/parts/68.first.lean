theorem init_loop : ∀ (d j : Nat) (N : Mem), j + d = 64 → ok_X6_init_125 (d + 1) N (nI j) ∧ ∃ z : Nat → Int32, (∀ i, i < j → z i = N 30 i) ∧ (∀ i, j ≤ i → i < 64 → z i = -1) ∧ f_X6_init_125 (d + 1) N (nI j) = ms N 30 z := by
  intro d
  induction d with
  | zero =>
    intro j N h
    have : j = 64 := by omega
    subst this
    have c : (64 : Int32) ≤ nI 64 := by decide
    refine ⟨?_, N 30, fun _ _ => rfl, fun i h1 h2 => by omega, ?_⟩
    · simp only [ok_X6_init_125, if_pos c]
    · simp only [f_X6_init_125, if_pos c]
      rw [ms_id]
  | succ d ih =>
    intro j N h
    have c : ¬ (64 : Int32) ≤ nI j := by
      rw [show (64 : Int32) = nI 64 from rfl, nI_leI (by decide) (by omega)]; omega
    have cj : (nI j).toNatClampNeg = j := nI_clamp (by omega)
    have v : vp_in (nI j) 64 := vp_in_nI (by omega) (by decide)
    obtain ⟨o, z, z1, z2, z3⟩ := ih (j + 1) (ms N 30 (upd (N 30) j (-1))) (by omega)
    refine ⟨?_, z, fun i hi => ?_, fun i h1 h2 => ?_, ?_⟩
    · unfold ok_X6_init_125
      rw [if_neg c, cj, nI_1]
      exact ⟨v, o⟩
    · rw [z1 i (by omega), ms_s, pk_un (by omega)]
    · by_cases e : i = j
      · subst e; rw [z1 i (by omega), ms_s, pk_us]
      · exact z2 i (by omega) h2
    · unfold f_X6_init_125
      rw [if_neg c, cj, nI_1, z3, ms_ms]
theorem pure_i : ok_X6_init_125 65 M0R (0 : Int32) := (init_loop 64 0 M0R rfl).1
theorem pure_0 : Sim 0 M0N M1R := by
  obtain ⟨-, z, -, z2, z3⟩ := init_loop 64 0 M0R rfl
  have e : M1R = ms M0R 30 z := z3
  rw [e]
  have hv : ∀ a : Nat, ve 0 (M0N 12) 0 a 0 := fun a => ⟨fun _ => ⟨0, by decide, rfl, fun q => absurd q (by decide)⟩, fun _ => ⟨0, by decide, rfl⟩, fun _ => ⟨0, by decide, rfl⟩, fun _ => ⟨0, by decide, rfl⟩⟩
  refine ⟨0, 0, 0, ⟨⟨rfl, rfl, rfl, rfl, rfl, rfl, rfl, rfl, rfl, rfl, rfl⟩, ⟨rfl, rfl, rfl, rfl, rfl, rfl, rfl, rfl, rfl, rfl, rfl, rfl⟩, ⟨fun t _ => ⟨0, by decide, rfl⟩, Or.inl rfl⟩, ⟨by decide, rfl, fun a _ => hv a⟩, ⟨rfl, by decide, fun k hk => by omega, fun a _ => Or.inl rfl⟩, ⟨rfl, Or.inl rfl, fun j hj => Or.inl ⟨z2 j (by omega) hj, by omega⟩⟩, (show ¬ (0 : Int32) < 0 by decide), ⟨0, by decide, rfl⟩, ⟨0, by decide, rfl⟩, fun _ t _ => (show (0 : Int32) < 12 by decide), fun _ => ⟨rfl, rfl⟩⟩, Or.inl ⟨rfl, Or.inl rfl⟩⟩
theorem pure_PF : PF Sim := ⟨fun _ _ _ h => Sim.next h, pf_program_ok, pf_seal_ok, pf_cut_ok, pf_sense_ok, pf_aired_ok, pf_state_ok, pf_task_ok, pf_register_ok, pf_slot_ok, pf_kept_ok, pf_heard_ok⟩
