/-! TOKENS OF MACROS: whether they are a text; how the wikis settle and take versions -/
section ITX
variable {g : Nat → Int} {n i R : Nat}
theorem fitB_p {c : Int} (b : Bool) (hc : c = 0 ∨ c = 1 ∨ c = 2 ∨ c = 4 ∨ c = 8 ∨ c = 9 ∨ c = 11 ∨ c = 13) : fitB n c (-1) b = true := by
  rcases hc with h | h | h | h | h | h | h | h <;> subst h <;> cases b <;> rfl
theorem chk_1 {c : Int} (h : g i / 1000 = c) (hc : c = 0 ∨ c = 1 ∨ c = 11 ∨ c = 13) : chk g n i [] (R + 1) = chk g n (i + 1) [] R := by
  rw [chk, h]
  have e : fitB n c (([] : List Int).headD (-1)) (decide (0 < i) && opB (g (i - 1) / 1000)) = true := fitB_p _ (by omega)
  rw [e, Bool.true_and]
  rcases hc with z | z | z | z <;> subst z <;> rfl
theorem chk_12 (h : g i / 1000 = 12) : chk g n i [] (R + 1) = (decide (n = 1) && chk g n (i + 1) [] R) := by
  rw [chk, h]
  have e : fitB n 12 (([] : List Int).headD (-1)) (decide (0 < i) && opB (g (i - 1) / 1000)) = decide (n = 1) := rfl
  rw [e]
  rfl
theorem chk_op {c : Int} {st : List Int} {m : Nat} (h : g i / 1000 = c) (hc : c = 2 ∨ c = 4 ∨ c = 8 ∨ c = 9) : chk g n i [] (m + 1) = chk g n (i + 1) [c] m := by
  rw [chk, h]
  have e : fitB n c (([] : List Int).headD (-1)) (decide (0 < i) && opB (g (i - 1) / 1000)) = true := fitB_p _ (by omega)
  rw [e, Bool.true_and]
  rcases hc with z | z | z | z <;> subst z <;> rfl
theorem chk_cl {c : Int} {m : Nat} (h : g i / 1000 = 7) (hc : c = 2 ∨ c = 4 ∨ c = 8 ∨ c = 9) : chk g n i [c] (m + 1) = chk g n (i + 1) [] m := by
  rw [chk, h]
  have e : fitB n 7 (([c] : List Int).headD (-1)) (decide (0 < i) && opB (g (i - 1) / 1000)) = true := by
    rcases hc with z | z | z | z <;> subst z <;> rfl
  rw [e, Bool.true_and]
  rfl
theorem chk_wd {c : Int} {m : Nat} (h : g i / 1000 = 0) (hc : c = 4 ∨ c = 8 ∨ c = 9) (hp : c = 4 → opB (g (i - 1) / 1000) = false) : chk g n i [c] (m + 1) = chk g n (i + 1) [c] m := by
  rw [chk, h]
  have e : fitB n 0 (([c] : List Int).headD (-1)) (decide (0 < i) && opB (g (i - 1) / 1000)) = true := by
    rcases hc with z | z | z
    · rw [hp z, Bool.and_false, z]; rfl
    · rw [z]; cases (decide (0 < i) && opB (g (i - 1) / 1000)) <;> rfl
    · rw [z]; cases (decide (0 < i) && opB (g (i - 1) / 1000)) <;> rfl
  rw [e, Bool.true_and]
  rfl
theorem chk_mk {m : Nat} (h : g i / 1000 = 5) : chk g n i [4] (m + 1) = chk g n (i + 1) [4] m := by
  rw [chk, h]
  have e : fitB n 5 (([4] : List Int).headD (-1)) (decide (0 < i) && opB (g (i - 1) / 1000)) = true := rfl
  rw [e, Bool.true_and]
  rfl
end ITX
abbrev tkG (T : List Nat) : Nat → Int := fun k => (tks T).getD k 0
theorem chk_tks {T : List Nat} (hT : ∀ m ∈ T, okM m) : ∀ d k, T.length - k = d → k ≤ T.length → chk (tkG T) (tks T).length (tks (T.take k)).length [] ((tks T).length - (tks (T.take k)).length) = (T.drop k).all (fun m => decide (m % 16 ≠ 10) || decide ((tks T).length = 1)) := by
  intro d
  induction d with
  | zero =>
    intro k hd hk
    have e : k = T.length := by omega
    subst e
    rw [List.take_length, List.drop_length, Nat.sub_self]
    rfl
  | succ d ih =>
    intro k hd hk
    have hlt : k < T.length := by omega
    have q := ih (k + 1) (by omega) hlt
    have ok := hT _ (getD_mm hlt)
    have hv := ok.v60
    have l2 : (tks (T.take (k + 1))).length = (tks (T.take k)).length + (cdL (T.getD k 0)).length := by rw [tks_take hlt, List.length_append]
    have l3 : (tks (T.take (k + 1))).length ≤ (tks T).length := tks_take_le
    have at_ : ∀ j, j < (cdL (T.getD k 0)).length → tkG T ((tks (T.take k)).length + j) = (cdL (T.getD k 0)).getD j 0 := fun j hj => tks_at hlt hj
    rw [drop_at hlt, List.all_cons, ← q]
    obtain ⟨R, hR⟩ : ∃ R, (tks T).length - (tks (T.take (k + 1))).length = R := ⟨_, rfl⟩
    rw [hR, l2]
    have hR2 : (tks T).length - (tks (T.take k)).length = R + (cdL (T.getD k 0)).length := by omega
    rw [hR2]
    have p0 : tkG T (tks (T.take k)).length = (cdL (T.getD k 0)).getD 0 0 := at_ 0 (by have := (cdL_len (T.getD k 0)).1; omega)
    unfold cdL at p0 at_ ⊢
    obtain ⟨ok1, ok2, ok3, ok4⟩ := ok
    generalize T.getD k 0 % 16 = kd at *
    generalize T.getD k 0 / 16 = v at *
    generalize (tks (T.take k)).length = P at *
    rcases (show kd = 0 ∨ kd = 1 ∨ kd = 2 ∨ kd = 3 ∨ kd = 4 ∨ kd = 5 ∨ kd = 6 ∨ kd = 7 ∨ kd = 8 ∨ kd = 9 ∨ kd = 10 by omega) with a | a | a | a | a | a | a | a | a | a | a <;> subst a
    · have z : tkG T P = (v : Int) := p0
      exact (chk_1 (c := 0) (by rw [z]; omega) (by omega)).trans (Bool.true_and _).symm
    · have z : tkG T P = 1000 + (v : Int) := p0
      exact (chk_1 (c := 1) (by rw [z]; omega) (by omega)).trans (Bool.true_and _).symm
    · have z : tkG T P = 2000 + (v : Int) := p0
      have z1 : tkG T (P + 1) = 7000 := at_ 1 (by show 1 < 2; decide)
      refine Eq.trans ?_ (Bool.true_and _).symm
      show chk (tkG T) (tks T).length P [] (R + 1 + 1) = _
      rw [chk_op (st := []) (c := 2) (by rw [z]; omega) (by omega), chk_cl (by rw [z1]; decide) (by omega)]
      rfl
    · have z : tkG T P = 11000 + (v : Int) := p0
      exact (chk_1 (c := 11) (by rw [z]; omega) (by omega)).trans (Bool.true_and _).symm
    · have z : tkG T P = 13000 := p0
      exact (chk_1 (c := 13) (by rw [z]; decide) (by omega)).trans (Bool.true_and _).symm
    · have z : tkG T P = 4004 := p0
      have z1 : tkG T (P + 1) = 5000 := at_ 1 (by show 1 < 4; decide)
      have z2 : tkG T (P + 1 + 1) = (v : Int) := at_ 2 (by show 2 < 4; decide)
      have z3 : tkG T (P + 1 + 1 + 1) = 7000 := at_ 3 (by show 3 < 4; decide)
      refine Eq.trans ?_ (Bool.true_and _).symm
      show chk (tkG T) (tks T).length P [] (R + 1 + 1 + 1 + 1) = _
      rw [chk_op (st := []) (c := 4) (by rw [z]; decide) (by omega), chk_mk (by rw [z1]; decide), chk_wd (by rw [z2]; omega) (by omega) (fun _ => by rw [show P + 1 + 1 - 1 = P + 1 by omega, z1]; rfl), chk_cl (by rw [z3]; decide) (by omega)]
      rfl
    · have z : tkG T P = 4005 := p0
      have z1 : tkG T (P + 1) = 5000 := at_ 1 (by show 1 < 4; decide)
      have z2 : tkG T (P + 1 + 1) = (v : Int) := at_ 2 (by show 2 < 4; decide)
      have z3 : tkG T (P + 1 + 1 + 1) = 7000 := at_ 3 (by show 3 < 4; decide)
      refine Eq.trans ?_ (Bool.true_and _).symm
      show chk (tkG T) (tks T).length P [] (R + 1 + 1 + 1 + 1) = _
      rw [chk_op (st := []) (c := 4) (by rw [z]; decide) (by omega), chk_mk (by rw [z1]; decide), chk_wd (by rw [z2]; omega) (by omega) (fun _ => by rw [show P + 1 + 1 - 1 = P + 1 by omega, z1]; rfl), chk_cl (by rw [z3]; decide) (by omega)]
      rfl
    · have z : tkG T P = 4003 := p0
      have z1 : tkG T (P + 1) = 5000 := at_ 1 (by show 1 < 4; decide)
      have z2 : tkG T (P + 1 + 1) = (v : Int) := at_ 2 (by show 2 < 4; decide)
      have z3 : tkG T (P + 1 + 1 + 1) = 7000 := at_ 3 (by show 3 < 4; decide)
      refine Eq.trans ?_ (Bool.true_and _).symm
      show chk (tkG T) (tks T).length P [] (R + 1 + 1 + 1 + 1) = _
      rw [chk_op (st := []) (c := 4) (by rw [z]; decide) (by omega), chk_mk (by rw [z1]; decide), chk_wd (by rw [z2]; omega) (by omega) (fun _ => by rw [show P + 1 + 1 - 1 = P + 1 by omega, z1]; rfl), chk_cl (by rw [z3]; decide) (by omega)]
      rfl
    · have z : tkG T P = 8000 := p0
      have z2 : tkG T (P + 1) = (v : Int) := at_ 1 (by show 1 < 3; decide)
      have z3 : tkG T (P + 1 + 1) = 7000 := at_ 2 (by show 2 < 3; decide)
      refine Eq.trans ?_ (Bool.true_and _).symm
      show chk (tkG T) (tks T).length P [] (R + 1 + 1 + 1) = _
      rw [chk_op (st := []) (c := 8) (by rw [z]; decide) (by omega), chk_wd (by rw [z2]; omega) (by omega) (fun y => absurd y (by decide)), chk_cl (by rw [z3]; decide) (by omega)]
      rfl
    · have z : tkG T P = 9000 := p0
      have z2 : tkG T (P + 1) = (v : Int) := at_ 1 (by show 1 < 3; decide)
      have z3 : tkG T (P + 1 + 1) = 7000 := at_ 2 (by show 2 < 3; decide)
      refine Eq.trans ?_ (Bool.true_and _).symm
      show chk (tkG T) (tks T).length P [] (R + 1 + 1 + 1) = _
      rw [chk_op (st := []) (c := 9) (by rw [z]; decide) (by omega), chk_wd (by rw [z2]; omega) (by omega) (fun y => absurd y (by decide)), chk_cl (by rw [z3]; decide) (by omega)]
      rfl
    · have z : tkG T P = 12000 + (v : Int) := p0
      refine (chk_12 (by rw [z]; omega)).trans ?_
      rw [show decide (10 ≠ 10) = false from rfl, Bool.false_or]
      rfl
theorem isTx_tks {T : List Nat} (hT : ∀ m ∈ T, okM m) (h5 : T.length ≤ 5) : isTx (tkG T) (tks T).length = isTL T := by
  have l := tks_len T
  have c := chk_tks hT (T.length - 0) 0 rfl (Nat.zero_le _)
  rw [List.take_zero, List.drop_zero, show (tks []).length = 0 from rfl, Nat.sub_zero] at c
  unfold isTx isTL
  rw [c]
  by_cases h0 : T.length = 0
  · rw [decide_eq_false (show ¬ (1 ≤ (tks T).length ∧ (tks T).length ≤ 30) by omega), decide_eq_false (show ¬ (1 ≤ T.length ∧ T.length ≤ 5) by omega), Bool.false_and, Bool.false_and]
  · rw [decide_eq_true (show 1 ≤ (tks T).length ∧ (tks T).length ≤ 30 by omega), decide_eq_true (show 1 ≤ T.length ∧ T.length ≤ 5 by omega), Bool.true_and, Bool.true_and]
    by_cases h1 : T.length ≤ 1
    · rw [decide_eq_true h1, Bool.true_or]
      rw [List.all_eq_true]
      intro m hm
      by_cases k : m % 16 = 10
      · have e : T = [m] := by
          cases T with
          | nil => cases hm
          | cons x q =>
            cases q with
            | nil => rw [List.mem_singleton] at hm; rw [hm]
            | cons y q => exact absurd h1 (by rw [List.length_cons, List.length_cons]; omega)
        have e2 : (tks T).length = 1 := by
          rw [e, tks_cons]
          unfold cdL
          rw [k]
          rfl
        rw [decide_eq_true e2, Bool.or_true]
      · rw [decide_eq_true k, Bool.true_or]
    · rw [decide_eq_false h1, Bool.false_or]
      congr 1
      funext m
      rw [decide_eq_false (show ¬ (tks T).length = 1 by omega), Bool.or_false]
/-! settling -/
section LWS
variable {b kc N np t : Nat} {E E' : Rw} {G G' : Md} {T : Nat → List Nat}
theorem LW.settle (hL : LW N np T E G) (h28 : ∀ t, t < 8 → G.2 28 t ≤ G.1 22) (hS : StM G G' N) (hT : SeT N G E E' 8) (h3 : E' 0 3 < 100000) : LW N np T E' G' := by
  obtain ⟨⟨hV, hP, hTt, hWG, hK⟩, hD, hTr, ⟨o1, o2, o3⟩, ⟨n1, n2⟩, n8, n10⟩ := hL
  obtain ⟨s1, s2, s3, s4, s5⟩ := hS
  obtain ⟨t1, t2, t3, t4, t5⟩ := hT
  obtain ⟨k1, k2, k3, k4⟩ := hK
  have r : ∀ k, (k = 1 ∨ k = 2 ∨ k = 3 ∨ (6 ≤ k ∧ k ≤ 10)) → E' k = E k := fun k hk => t1 k (by omega) (by omega) (by omega)
  have g2 : ∀ k, (k ≤ 22 ∨ k = 24 ∨ k = 25 ∨ (27 ≤ k ∧ k ≤ 36)) → G'.2 k = G.2 k := fun k hk => s4 k (by omega) (by omega)
  refine ⟨⟨?_, ?_, fun v hv => ?_, ⟨fun u hu => ?_, fun u a c => ?_⟩, ⟨by omega, fun u hu => ?_, fun c hc => ?_, fun s hs h27 => ?_⟩⟩, ?_, ?_, ⟨(s1 2 (by decide)).trans o1, ?_, ?_⟩, ⟨(t2 1 (by decide)).trans n1, (s1 7 (by decide)).trans n2⟩, (s1 8 (by decide)).trans n8, ?_⟩
  · unfold WV at hV ⊢
    rw [t2 0 (by decide), t2 2 (by decide), r 2 (by omega), g2 12 (by omega), g2 11 (by omega), s1 5 (by decide)]
    exact hV
  · unfold WP at hP ⊢
    rw [r 1 (by omega), g2 6 (by omega)]
    exact hP
  · obtain ⟨b1, b2, b3, b4, b5⟩ := hTt v hv
    refine ⟨by rw [r 3 (by omega)]; exact b1, b2, b3, ?_, fun k hk => ?_⟩
    · rw [← b4]; unfold tl; rw [g2 10 (by omega)]
    · rw [← b5 k hk]; unfold tx; rw [g2 9 (by omega)]
  · have := hWG.1 u hu
    unfold WG at this ⊢
    rw [r 6 (by omega), g2 4 (by omega), g2 27 (by omega), g2 32 (by omega), g2 30 (by omega), g2 31 (by omega), g2 33 (by omega), g2 34 (by omega), g2 35 (by omega)]
    exact this
  · rw [g2 27 (by omega), g2 32 (by omega)]
    exact hWG.2 u a c
  · obtain ⟨x1, x2⟩ := t4 u hu
    obtain ⟨y1, y2⟩ := s5 u (by omega)
    obtain ⟨z1, z2⟩ := k2 u hu
    refine ⟨?_, by rw [x1, y1]⟩
    rcases x2 with x | x
    · rw [x.2]; omega
    · omega
  · rw [r 8 (by omega)]
    have := k3 c hc
    omega
  · rw [g2 27 (by omega)] at h27
    obtain ⟨y1, y2, y3⟩ := k4 s hs h27
    rw [r 6 (by omega), r 8 (by omega), g2 28 (by omega), g2 24 (by omega)]
    refine ⟨by omega, fun k hk => ?_, y3⟩
    obtain ⟨x1, x2⟩ := t4 k hk
    obtain ⟨w1, w2⟩ := s5 k (by omega)
    obtain ⟨z1, z2⟩ := k2 k hk
    have h8 := h28 s hs
    by_cases c : G.2 26 k = prAt G N k
    · rw [if_pos c] at w2
      rcases x2 with x | x
      · rw [x.2, w2]; exact y2 k hk
      · exact absurd (by omega) x.1
    · rw [if_neg c] at w2
      rcases x2 with x | x
      · exact absurd (by omega) c
      · constructor
        · intro _; omega
        · intro _; omega
  · unfold LD at hD ⊢
    rw [g2 27 (by omega), g2 30 (by omega), g2 29 (by omega), r 7 (by omega)]
    exact hD
  · unfold LT at hTr ⊢
    rw [g2 17 (by omega), g2 18 (by omega), r 9 (by omega)]
    exact hTr
  · rw [g2 3 (by omega)]; exact o2
  · rw [g2 6 (by omega)]; exact o3
  · rw [r 10 (by omega)]; exact n10
/-- a version more, on both sides -/
theorem LW.addV {p tm : Int} {g : Nat → Int} {n : Nat} {Tn : List Nat} (hL : LW N np T E G) (hn : NvM G G' p tm g n N) (h32 : N < 32) (hp : 0 ≤ p ∧ p ≤ (N : Int)) (ht : 1 ≤ tm ∧ tm ≤ G.1 5) (ok : okT Tn) (hl : 1 ≤ Tn.length ∧ Tn.length ≤ 5) (hg : n = (tks Tn).length ∧ ∀ k, k < n → g k = (tks Tn).getD k 0) :
    LW (N + 1) np (fun v => if v = N then Tn else T v) (wPut (wPut (wPut (wPut E 2 (2 * N) p) 2 (2 * N + 1) tm) 3 N (encT Tn)) 0 0 ((N : Int) + 1)) G' := by
  obtain ⟨⟨hV, hP, hTt, hWG, hK⟩, hD, hTr, ⟨o1, o2, o3⟩, ⟨n1, n2⟩, n8, n10⟩ := hL
  obtain ⟨v1, v2, v3, v4, v5, v6, v7⟩ := hV
  obtain ⟨m1, m2, m3, m4, ⟨m5, m6, m7⟩, m8⟩ := hn
  have tl4 := (tks_len Tn).2
  generalize hE4 : wPut (wPut (wPut (wPut E 2 (2 * N) p) 2 (2 * N + 1) tm) 3 N (encT Tn)) 0 0 ((N : Int) + 1) = E4
  have r : ∀ k, (k = 1 ∨ 4 ≤ k) → E4 k = E k := fun k hk => by rw [← hE4, wPk _ _ (by omega), wPk _ _ (by omega), wPk _ _ (by omega), wPk _ _ (by omega)]
  have r0 : ∀ i, i ≠ 0 → E4 0 i = E 0 i := fun i hi => by rw [← hE4, wP2 _ _ (by omega), wPk _ _ (by decide), wPk _ _ (by decide), wPk _ _ (by decide)]
  have r00 : E4 0 0 = ((N + 1 : Nat) : Int) := by rw [← hE4, wP1]; omega
  have r2 : ∀ v, v < N → E4 2 (2 * v) = E 2 (2 * v) ∧ E4 2 (2 * v + 1) = E 2 (2 * v + 1) := fun v hv => by
    rw [← hE4]
    exact ⟨by rw [wP2 _ _ (by omega), wP2 _ _ (by omega), wP2 _ _ (by omega), wP2 _ _ (by omega)], by rw [wP2 _ _ (by omega), wP2 _ _ (by omega), wP2 _ _ (by omega), wP2 _ _ (by omega)]⟩
  have r2N : E4 2 (2 * N) = p ∧ E4 2 (2 * N + 1) = tm := by
    rw [← hE4]
    exact ⟨by rw [wP2 _ _ (by omega), wP2 _ _ (by omega), wP2 _ _ (by omega), wP1], by rw [wP2 _ _ (by omega), wP2 _ _ (by omega), wP1]⟩
  have r3 : ∀ v, v < N → E4 3 v = E 3 v := fun v hv => by rw [← hE4, wP2 _ _ (by omega), wP2 _ _ (by omega), wP2 _ _ (by omega), wP2 _ _ (by omega)]
  have r3N : E4 3 N = encT Tn := by rw [← hE4, wP2 _ _ (by omega), wP1]
  have g2 : ∀ k, ¬ (9 ≤ k ∧ k ≤ 12) → G'.2 k = G.2 k := m3
  refine ⟨⟨⟨r00, by omega, fun v hv => ?_, fun v hv => ?_, fun v hv => ?_, ?_, ?_⟩, ?_, fun v hv => ?_, ⟨fun u hu => ?_, fun u a c => ?_⟩, ?_⟩, ?_, ?_, ⟨(m1 2 (by decide)).trans o1, ?_, ?_⟩, ⟨(r0 1 (by decide)).trans n1, (m1 7 (by decide)).trans n2⟩, by rw [m2]; omega, ?_⟩
  · by_cases e : v = N
    · subst e; rw [r2N.1, r2N.2, m7, m6]; exact ⟨rfl, rfl⟩
    · obtain ⟨x1, x2⟩ := r2 v (by omega)
      obtain ⟨y1, y2⟩ := v3 v (by omega)
      obtain ⟨z1, z2, z3, z4⟩ := m4 v (by omega)
      rw [x1, x2, z3, z2]
      exact ⟨y1, y2⟩
  · by_cases e : v = N
    · subst e; rw [m7]; omega
    · rw [(m4 v (by omega)).2.2.1]
      have := v4 v (by omega)
      omega
  · by_cases e : v = N
    · subst e; rw [m6, m1 5 (by decide)]; exact ht
    · rw [(m4 v (by omega)).2.1, m1 5 (by decide)]
      exact v5 v (by omega)
  · rw [m1 5 (by decide)]; exact v6
  · rw [r0 2 (by decide), m1 5 (by decide)]; exact v7
  · unfold WP at hP ⊢
    rw [r 1 (by omega), g2 6 (by omega)]
    exact hP
  · by_cases e : v = N
    · subst e
      dsimp only
      rw [if_pos rfl]
      refine ⟨r3N, ok, hl, ?_, fun k hk => ?_⟩
      · unfold tl; rw [m5, hg.1]; rfl
      · unfold tx; rw [m8 k (by omega)]; exact hg.2 k (by omega)
    · dsimp only
      rw [if_neg e]
      obtain ⟨b1, b2, b3, b4, b5⟩ := hTt v (by omega)
      obtain ⟨z1, z2, z3, z4⟩ := m4 v (by omega)
      have l5 := (tks_len (T v)).2
      refine ⟨by rw [r3 v (by omega)]; exact b1, b2, b3, ?_, fun k hk => ?_⟩
      · rw [← b4]; unfold tl; rw [z1]
      · rw [← b5 k hk]; unfold tx; rw [z4 k (by omega)]
  · have := hWG.1 u hu
    unfold WG at this ⊢
    rw [r 6 (by omega), g2 4 (by omega), g2 27 (by omega), g2 32 (by omega), g2 30 (by omega), g2 31 (by omega), g2 33 (by omega), g2 34 (by omega), g2 35 (by omega)]
    exact this
  · rw [g2 27 (by omega), g2 32 (by omega)]
    exact hWG.2 u a c
  · unfold WK at hK ⊢
    rw [r0 3 (by decide), r 4 (by omega), r 5 (by omega), r 6 (by omega), r 8 (by omega), g2 26 (by omega), g2 27 (by omega), g2 28 (by omega), g2 23 (by omega), g2 24 (by omega)]
    exact hK
  · unfold LD at hD ⊢
    rw [g2 27 (by omega), g2 30 (by omega), g2 29 (by omega), r 7 (by omega)]
    exact hD
  · unfold LT at hTr ⊢
    rw [g2 17 (by omega), g2 18 (by omega), r 9 (by omega)]
    exact hTr
  · rw [g2 3 (by omega)]; exact o2
  · rw [g2 6 (by omega)]; exact o3
  · rw [r 10 (by omega)]; exact n10
/-- the clock goes on -/
theorem LW.clock {x : Int} (hL : LW N np T E G) (hx : G.1 5 ≤ x ∧ x < 100000) : LW N np T (wPut E 0 2 x) (mSet G 5 x) := by
  obtain ⟨⟨⟨v1, v2, v3, v4, v5, v6, v7⟩, hP, hTt, hWG, hK⟩, hD, hTr, ⟨o1, o2, o3⟩, ⟨n1, n2⟩, n8, n10⟩ := hL
  have r : ∀ k, k ≠ 0 → wPut E 0 2 x k = E k := fun k hk => wPk _ _ hk
  refine ⟨⟨⟨(wP2 _ _ (by omega)).trans v1, v2, fun v hv => by rw [r 2 (by decide)]; exact v3 v hv, v4, fun v hv => ?_, ?_, ?_⟩, ?_, fun v hv => ?_, ⟨fun u hu => (hWG.1 u hu).row (r 6 (by decide)), hWG.2⟩, ?_⟩, ?_, ?_, ⟨(mS2 _ _ (by decide)).trans o1, o2, o3⟩, ⟨(wP2 _ _ (by omega)).trans n1, (mS2 _ _ (by decide)).trans n2⟩, (mS2 _ _ (by decide)).trans n8, ?_⟩
  · rw [mS1]
    have := v5 v hv
    exact ⟨this.1, by show G.2 11 v ≤ x; omega⟩
  · rw [mS1]; omega
  · rw [wP1, mS1]
  · exact hP.row (r 1 (by decide))
  · obtain ⟨b1, b2, b3, b4, b5⟩ := hTt v hv
    exact ⟨by rw [r 3 (by decide)]; exact b1, b2, b3, b4, b5⟩
  · unfold WK at hK ⊢
    rw [wP2 _ _ (show (0 : Nat) ≠ 0 ∨ (3 : Nat) ≠ 2 by decide), r 4 (by decide), r 5 (by decide), r 6 (by decide), r 8 (by decide)]
    exact hK
  · unfold LD at hD ⊢
    rw [r 7 (by decide)]
    exact hD
  · unfold LT at hTr ⊢
    rw [r 9 (by decide)]
    exact hTr
  · rw [r 10 (by decide)]; exact n10
/-- a new page at a title -/
theorem LW.page (hL : LW N np T E G) (ht : t < 8) (hn : np ≤ N) : LW N (np + 1) T (wPut (wPut E 1 t ((np : Int) + 1)) 0 1 ((np : Int) + 1)) (mSet (mPut G 6 t (np : Int)) 7 ((np : Int) + 1)) := by
  obtain ⟨⟨⟨v1, v2, v3, v4, v5, v6, v7⟩, hP, hTt, hWG, hK⟩, hD, hTr, ⟨o1, o2, o3⟩, ⟨n1, n2⟩, n8, n10⟩ := hL
  generalize hE4 : wPut (wPut E 1 t ((np : Int) + 1)) 0 1 ((np : Int) + 1) = E4
  have r : ∀ k, k ≠ 0 → k ≠ 1 → E4 k = E k := fun k h0 h1 => by rw [← hE4, wPk _ _ h0, wPk _ _ h1]
  have r0 : ∀ i, i ≠ 1 → E4 0 i = E 0 i := fun i hi => by rw [← hE4, wP2 _ _ (by omega), wPk _ _ (by decide)]
  have g : ∀ j, j ≠ 7 → (mSet (mPut G 6 t (np : Int)) 7 ((np : Int) + 1)).1 j = G.1 j := fun j hj => mS2 (mPut G 6 t (np : Int)) _ hj
  have g2 : ∀ k, k ≠ 6 → (mSet (mPut G 6 t (np : Int)) 7 ((np : Int) + 1)).2 k = G.2 k := fun k hk => mPut_ne G _ _ hk
  have g6 : ∀ u, (mSet (mPut G 6 t (np : Int)) 7 ((np : Int) + 1)).2 6 u = if u = t then (np : Int) else G.2 6 u := fun u => by
    show (mPut G 6 t (np : Int)).2 6 u = _
    by_cases e : u = t
    · rw [if_pos e, e, p2_1]
    · rw [if_neg e, p2_2 G _ (Or.inr e)]
  have g7 : (mSet (mPut G 6 t (np : Int)) 7 ((np : Int) + 1)).1 7 = (np : Int) + 1 := mS1 _ _ _
  generalize mSet (mPut G 6 t (np : Int)) 7 ((np : Int) + 1) = G1 at *
  refine ⟨⟨⟨(r0 0 (by decide)).trans v1, v2, fun v hv => ?_, fun v hv => ?_, fun v hv => ?_, ?_, ?_⟩, fun u hu => ?_, fun v hv => ?_, ⟨fun u hu => ?_, fun u a c => ?_⟩, ?_⟩, ?_, ?_, ⟨(g 2 (by decide)).trans o1, ?_, fun u a c => ?_⟩, ⟨?_, by rw [g7]; omega⟩, (g 8 (by decide)).trans n8, ?_⟩
  · rw [r 2 (by decide) (by decide), g2 12 (by decide), g2 11 (by decide)]; exact v3 v hv
  · rw [g2 12 (by decide)]; exact v4 v hv
  · rw [g2 11 (by decide), g 5 (by decide)]; exact v5 v hv
  · rw [g 5 (by decide)]; exact v6
  · rw [r0 2 (by decide), g 5 (by decide)]; exact v7
  · obtain ⟨p1, p2, p3⟩ := hP u hu
    rw [g6]
    by_cases e : u = t
    · rw [if_pos e, e, ← hE4, wPk _ _ (by decide), wP1]
      omega
    · rw [if_neg e, ← hE4, wPk _ _ (by decide), wP2 _ _ (by omega)]
      exact ⟨p1, p2, p3⟩
  · obtain ⟨b1, b2, b3, b4, b5⟩ := hTt v hv
    refine ⟨by rw [r 3 (by decide) (by decide)]; exact b1, b2, b3, ?_, fun k hk => ?_⟩
    · rw [← b4]; unfold tl; rw [g2 10 (by decide)]
    · rw [← b5 k hk]; unfold tx; rw [g2 9 (by decide)]
  · have := hWG.1 u hu
    unfold WG at this ⊢
    rw [r 6 (by decide) (by decide), g2 4 (by decide), g2 27 (by decide), g2 32 (by decide), g2 30 (by decide), g2 31 (by decide), g2 33 (by decide), g2 34 (by decide), g2 35 (by decide)]
    exact this
  · rw [g2 27 (by decide), g2 32 (by decide)]
    exact hWG.2 u a c
  · unfold WK at hK ⊢
    rw [r0 3 (by decide), r 4 (by decide) (by decide), r 5 (by decide) (by decide), r 6 (by decide) (by decide), r 8 (by decide) (by decide), g2 26 (by decide), g2 27 (by decide), g2 28 (by decide), g2 23 (by decide), g2 24 (by decide)]
    exact hK
  · unfold LD at hD ⊢
    rw [g2 27 (by decide), g2 30 (by decide), g2 29 (by decide), r 7 (by decide) (by decide)]
    exact hD
  · unfold LT at hTr ⊢
    rw [g2 17 (by decide), g2 18 (by decide), r 9 (by decide) (by decide)]
    exact hTr
  · rw [g2 3 (by decide)]; exact o2
  · rw [g6, if_neg (by omega)]; exact o3 u a c
  · rw [← hE4, wP1]; omega
  · rw [r 10 (by decide) (by decide)]; exact n10
end LWS
