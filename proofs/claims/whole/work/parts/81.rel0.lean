/-! the relation at the start -/
theorem rW0 (w u B : Nat → Int32) (i : Nat) (hw : ∀ k, k < 5 → w k = 0) (hu : ∀ k, k < 6 → u k = 0) (h36 : B (36 + i) = -6) (hB : ∀ k, k < 6 → B (6 * i + k) = 0) : rW w u B 0 i := by
  have w0 := hw 0 (by decide)
  have w1 := hw 1 (by decide)
  have w2 := hw 2 (by decide)
  have w4 := hw 4 (by decide)
  refine ⟨Or.inl w0, Or.inl w2, Or.inl w4, w1.symm, ⟨0, by decide, w1⟩, fun _ => h36, fun e => ?_, ?_, fun e => ?_, fun k hk => ⟨0, by decide, hu k hk⟩, fun k hk => Or.inl (by rw [hu k (by omega), hu (k + 1) (by omega)])⟩
  · rw [w2] at e
    exact absurd e (by decide)
  · rw [hu 0 (by decide)]
    exact hB 0 (by decide)
  · rw [w0] at e
    exact absurd e (by decide)
theorem Rel0 : Rel q_σ0 := by
  have b85 : ∀ k, k < 36 → q_σ0.1 85 k = 0 := by
    intro k hk
    show upd (upd (upd (upd (upd (upd (fun _ => 0) 36 (-6)) 37 (-6)) 38 (-6)) 39 (-6)) 40 (-6)) 41 (-6) k = 0
    rw [s_un _ _ _ (by omega), s_un _ _ _ (by omega), s_un _ _ _ (by omega), s_un _ _ _ (by omega), s_un _ _ _ (by omega), s_un _ _ _ (by omega)]
  refine ⟨⟨⟨rfl, 0, by decide, rfl⟩, ⟨rfl, 3, by decide, rfl⟩, ⟨rfl, Or.inl rfl⟩, ⟨rfl, 0, by decide, rfl⟩, by decide, ?_, ?_, ?_, ?_, ?_, ?_, ⟨rfl, ⟨0, by decide, rfl⟩, fun j hj => ⟨rfl, rfl, ⟨0, by decide, rfl⟩, ⟨0, by decide, rfl⟩⟩⟩⟩, ⟨rfl, ⟨0, by decide, rfl⟩, fun j hj => ⟨rfl, ⟨0, by decide, rfl⟩⟩⟩, ⟨rfl, Or.inl rfl⟩, ⟨rfl, Or.inl rfl⟩⟩
  · exact rW0 _ _ _ 0 (fun k _ => rfl) (fun k _ => rfl) rfl (fun k hk => b85 _ (by omega))
  · exact rW0 _ _ _ 1 (fun k _ => rfl) (fun k _ => rfl) rfl (fun k hk => b85 _ (by omega))
  · exact rW0 _ _ _ 2 (fun k _ => rfl) (fun k _ => rfl) rfl (fun k hk => b85 _ (by omega))
  · exact rW0 _ _ _ 3 (fun k _ => rfl) (fun k _ => rfl) rfl (fun k hk => b85 _ (by omega))
  · exact rW0 _ _ _ 4 (fun k _ => rfl) (fun k _ => rfl) rfl (fun k hk => b85 _ (by omega))
  · exact rW0 _ _ _ 5 (fun k _ => rfl) (fun k _ => rfl) rfl (fun k hk => b85 _ (by omega))
