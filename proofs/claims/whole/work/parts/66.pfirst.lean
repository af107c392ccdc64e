theorem sim_0 : Sim 0 C0 S0 := by
  have hn : ∀ {k : Nat} {P : Prop}, k < 0 → P := fun hk => absurd hk (Nat.not_lt_zero _)
  refine ⟨fun _ => 0, ⟨fun k _ => rfl, ?_, ?_⟩, ⟨Or.inl ⟨rfl, rfl⟩, Or.inl ⟨rfl, rfl⟩⟩, ⟨⟨rfl, rfl, rfl⟩, ⟨rfl, rfl⟩, rfl⟩, 0, Nat.zero_le _, rfl, rfl, fun k hk => hn hk⟩
  · exact inv_of ⟨show (0 : Nat) < 2 ^ 0 by decide, Nat.zero_le _, Nat.zero_le _, show (0 : Nat) < 256 by decide⟩ ⟨Nat.zero_le _, fun k hk => hn hk⟩ ⟨Nat.zero_le _, fun k hk => hn hk⟩ ⟨Nat.zero_le _, fun k hk => hn hk⟩ ⟨Nat.zero_le _, fun k hk => hn hk⟩ ⟨Nat.zero_le _, fun k hk => hn hk⟩
  · exact rel_of ⟨rfl, rfl, rfl, rfl⟩ ⟨rfl, fun k hk => hn hk⟩ ⟨rfl, fun k hk => hn hk⟩ ⟨rfl, fun k hk => hn hk⟩ ⟨rfl, fun k hk => hn hk⟩ ⟨rfl, fun k hk => hn hk⟩
