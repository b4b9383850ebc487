/-! THE REFERENCE'S TEXTS WHILE IT EXPANDS -/
section MCO
variable {M : Md} {fr v : Nat} {g : Nat → Int} {n : Nat}
/-- a frame's text -/
def FrM (M : Md) (fr v : Nat) (g : Nat → Int) (n : Nat) : Prop := fr < 41 ∧ v < 120 ∧ M.2 41 fr = (v : Int) ∧ n ≤ 30 ∧ ∀ k, k < n → M.2 9 (30 * v + k) = g k ∧ 0 ≤ g k ∧ g k < 14000
theorem X12_codeAt_ (h : FrM M fr v g n) {i : Nat} (hi : i < n) : fX12_codeAt (fr : Int) (i : Int) M = some (g i, M) := by
  obtain ⟨h1, h2, h3, h4, h5⟩ := h
  have e : (30 * (v : Int)) + (i : Int) = ((30 * v + i : Nat) : Int) := by omega
  unfold fX12_codeAt
  rw [if_pos ⟨by rw [w32_n (by omega)]; omega, by rw [w32_n (by omega), show mLen 41 = 41 from rfl]; omega⟩, ix_n (by omega), h3, e, if_pos ⟨by rw [w32_n (by omega)]; omega, by rw [w32_n (by omega), show mLen 9 = 3600 from rfl]; omega⟩, ix_n (by omega), (h5 i hi).1]
/-- a search over a nested piece -/
theorem fEg_over (g : Nat → Int) (part : Bool) : ∀ m j (d k : Nat), fEg g false (d : Int) j m < j + m → fEg g part ((d + k + 1 : Nat) : Int) j m = fEg g part (k : Int) (fEg g false (d : Int) j m + 1) (j + m - (fEg g false (d : Int) j m + 1)) := by
  intro m
  induction m with
  | zero => intro j d k h; have := fEg_lo g false 0 (d : Int) j; omega
  | succ m ih =>
    intro j d k h
    by_cases c : (d : Int) = 0 ∧ g j / 1000 = 7
    · have e : fEg g false (d : Int) j (m + 1) = j := by rw [fEg, if_pos ⟨c.1, Or.inl c.2⟩]
      rw [e, show j + (m + 1) - (j + 1) = m by omega]
      rw [fEg, if_neg (by omega), c.2, dlt_cl, show ((d + k + 1 : Nat) : Int) + -1 = (k : Int) by omega]
    · have e : fEg g false (d : Int) j (m + 1) = fEg g false ((d : Int) + dlt (g j / 1000)) (j + 1) m := by
        rw [fEg, if_neg (fun z => c ⟨z.1, z.2.elim id (fun y => absurd y.1 Bool.false_ne_true)⟩)]
      have e2 : fEg g part ((d + k + 1 : Nat) : Int) j (m + 1) = fEg g part (((d + k + 1 : Nat) : Int) + dlt (g j / 1000)) (j + 1) m := by rw [fEg, if_neg (by omega)]
      rw [e] at h ⊢
      rw [e2]
      have key : ∀ d' : Nat, (d' : Int) = (d : Int) + dlt (g j / 1000) → fEg g part (((d + k + 1 : Nat) : Int) + dlt (g j / 1000)) (j + 1) m = fEg g part (k : Int) (fEg g false ((d : Int) + dlt (g j / 1000)) (j + 1) m + 1) (j + (m + 1) - (fEg g false ((d : Int) + dlt (g j / 1000)) (j + 1) m + 1)) := by
        intro d' hd'
        have q := ih (j + 1) d' k (by rw [hd']; omega)
        rw [hd'] at q
        rw [show ((d + k + 1 : Nat) : Int) + dlt (g j / 1000) = ((d' + k + 1 : Nat) : Int) by omega, q, show j + 1 + m = j + (m + 1) by omega]
      by_cases ho : opB (g j / 1000) = true
      · exact key (d + 1) (by rw [dlt_op ho]; omega)
      · by_cases c7 : g j / 1000 = 7
        · have : (d : Int) ≠ 0 := fun z => c ⟨z, c7⟩
          exact key (d - 1) (by rw [c7, dlt_cl]; omega)
        · exact key d (by rw [dlt_no ho c7]; omega)
theorem FrM.k (h : FrM M fr v g n) {i : Nat} (hi : i < n) : divI (g i) 1000 = g i / 1000 ∧ remI (g i) 1000 = g i % 1000 ∧ w32 (g i / 1000) = g i / 1000 ∧ fX12_opens (g i / 1000) M = some (if opB (g i / 1000) = true then 1 else 0, M) := by
  have q := h.2.2.2.2 i hi
  exact ⟨divI_of (by omega) (by omega) (by decide) (by decide), remI_of (by omega) (by omega) (by decide) (by decide), w32_of (by omega) (by omega), X12_opens_ M (by omega) (by omega)⟩
theorem X12_closeOf_ (h : FrM M fr v g n) {i : Nat} (hE : fEg g false 0 (i + 1) (n - (i + 1)) < n) : fX12_closeOf (fr : Int) (i : Int) M = some ((fEg g false 0 (i + 1) (n - (i + 1)) : Int), M) := by
  have hn := h.2.2.2.1
  unfold fX12_closeOf
  rw [bnd_eq]
  refine (lpn_rule (P := fun mm (L : Int → Int → Md → Option (Int × Md)) => (0 < mm → ∀ a : Int, L 0 a M = some (a, M)) ∧ ∀ (d a : Nat), fEg g false (d : Int) (a + 1) (n - (a + 1)) < n → d ≤ a → n - a + 1 < mm → L ((d + 1 : Nat) : Int) (a : Int) M = some ((fEg g false (d : Int) (a + 1) (n - (a + 1)) : Int), M)) ⟨fun h => absurd h (Nat.lt_irrefl _), fun _ _ _ _ h => absurd h (Nat.not_lt_zero _)⟩ (fun mm L hLL => ⟨fun _ a => if_pos (by decide), fun d a hlt hda hm => ?_⟩) FU).2 0 i hE (Nat.zero_le _) (by unfold FU; omega)
  have hlo := fEg_lo g false (n - (a + 1)) (d : Int) (a + 1)
  have han : a + 1 < n := by omega
  have hd30 : fEg g false (d : Int) (a + 1) (n - (a + 1)) = if (d : Int) = 0 ∧ g (a + 1) / 1000 = 7 then a + 1 else fEg g false ((d : Int) + dlt (g (a + 1) / 1000)) (a + 1 + 1) (n - (a + 1 + 1)) := by
    rw [show n - (a + 1) = (n - (a + 1 + 1)) + 1 by omega, fEg]
    by_cases c : (d : Int) = 0 ∧ g (a + 1) / 1000 = 7
    · rw [if_pos c, if_pos ⟨c.1, Or.inl c.2⟩]
    · rw [if_neg c, if_neg (fun z => c ⟨z.1, z.2.elim id (fun y => absurd y.1 Bool.false_ne_true)⟩)]
  have hw3 : ¬ w32 ((d + 1 : Nat) : Int) ≤ 0 := by
    rw [w32_n (by omega)]
    omega
  obtain ⟨k1, k2, k3, k4⟩ := h.k han
  have hc := X12_codeAt_ h han
  rw [if_neg hw3, show ((a : Int) + 1) = ((a + 1 : Nat) : Int) by omega, cal_of hc, k1, bnd_eq, cal_of k4, bnd_eq]
  by_cases ho : opB (g (a + 1) / 1000) = true
  · have n7 : ¬ ((d : Int) = 0 ∧ g (a + 1) / 1000 = 7) := fun z => by rw [z.2] at ho; exact absurd ho (by decide)
    rw [if_neg n7, dlt_op ho] at hd30
    have q := hLL.2 (d + 1) (a + 1) (by rw [hd30] at hlt; exact hlt) (by omega) (by omega)
    rw [if_pos ho, if_neg (by decide), hd30]
    exact q
  · rw [if_neg ho, if_pos (by decide), k3, show w32 7 = 7 from rfl]
    by_cases c7 : g (a + 1) / 1000 = 7
    · rw [if_neg (fun z => z c7)]
      dsimp only
      rw [bnd_eq]
      rcases Nat.eq_zero_or_pos d with d0 | d0
      · subst d0
        rw [if_pos ⟨rfl, c7⟩] at hd30
        rw [hd30]
        exact hLL.1 (by omega) _
      · rw [if_neg (fun z => by omega), c7, dlt_cl, show (d : Int) + -1 = ((d - 1 : Nat) : Int) by omega] at hd30
        have q := hLL.2 (d - 1) (a + 1) (by rw [hd30] at hlt; exact hlt) (by omega) (by omega)
        rw [hd30, show ((d + 1 : Nat) : Int) + -1 = ((d - 1 + 1 : Nat) : Int) by omega]
        exact q
    · rw [if_pos c7]
      dsimp only
      rw [bnd_eq]
      rw [if_neg (fun z => c7 z.2), dlt_no ho c7, Int.add_zero] at hd30
      have q := hLL.2 d (a + 1) (by rw [hd30] at hlt; exact hlt) (by omega) (by omega)
      rw [hd30, Int.add_zero]
      exact q
end MCO
