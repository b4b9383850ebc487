/-! small rows that stood with the reference -/
theorem ix_in {i : Int} {n : Nat} (h : inR i n) : vp_in (Int32.ofInt i) n ∧ (Int32.ofInt i).toNatClampNeg = ix i := by
  obtain ⟨h1, h2⟩ := h
  refine ⟨vp_in_iff.mpr ⟨h1, h2⟩, ?_⟩
  rfl
theorem m_sz {H H1 : Heap} {n z0 sz : Nat} (hR : H.size = n) (a1 : z0 = sz) (h1 : sz ≤ H.size) (h2 : H.size ≤ H1.size) (hb : H1.size ≤ sz + (n - z0)) : H1.size = n := by omega
