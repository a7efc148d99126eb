/-! ===== floats: the balance is a number ===== -/
theorem f2d_v (f : Nat → Int32) (sd : Nat) : ∃ s c q, FP.Core.val64 (FP.f2d (mSth f sd)) = .fin s c q := by
  obtain ⟨s, c, q, e⟩ := FP.Core.f2d_fin (sth_sb f sd).1.fin
  exact ⟨s, c, q, by rw [show FP.f2d (mSth f sd) = FP.Core.f2d (mSth f sd) from FP.f2d_core ?_, e]; exact (FP.Core.notNaN_iff32 _).mpr (by obtain ⟨⟨c, q, e⟩, _⟩ := (sth_sb f sd).1; rw [e]; exact FP.Core.Datum.noConfusion)⟩
theorem bal_nn (f : Nat → Int32) : FP.Core.val64 (mBal f) ≠ .nan := by
  obtain ⟨s, c, q, e⟩ := f2d_v f 8
  exact (FP.Core.notNaN_iff _).mp (FP.Core.dsub_out ((FP.Core.notNaN_iff _).mpr (by rw [e]; exact FP.Core.Datum.noConfusion)) (f2d_v f 0))
theorem balOk (f : Nat → Int32) : vf_n64 (mBal f) := nn64_of (bal_nn f)
theorem dcmp_r {a : UInt64} (h : FP.Core.val64 a ≠ .nan) : FP.dcmp a a = some .eq := FP.Core.dcmp_self h
