/-! ===== parseValue keeps its promise, at any fuel ===== -/
theorem j_val {l : Launch} {s0 : State} {a0 : Array Value} {G : va_G} {ca : Nat → ClassId} (Γ : rt_Γ l s0 a0 G ca) {w : rt_Wd} {t tp n N : Nat} {f : Nat → Int32} {u : Int32} {g : Nat → Int32} (hT : rt_C s0 ca w tp n f u) (hn : n < 2 ^ 31) (htp : tp + 1 < t ∨ t + 18 ≤ tp) (hg : ∀ p : Nat, p < 65536 → cl_peek n f u (nI p) = g p) (hok : rt_ok w) (hN : jT g N) : ∀ m : Nat, jIV l s0 G ca w t tp N g m := by
  intro m
  induction m using Nat.strongRecOn with
  | ind m ih =>
  intro d dp p V L k b nx fi pa wo ke nu le hd hdp hp hVp hLp hm
  cases m with
  | zero => omega
  | succ m =>
  have hIV : ∀ i : Nat, i < m → jIV l s0 G ca w t tp N g i := fun i hi => ih i (by omega)
  by_cases h1 : g p = 123
  · have hlt := hN.lt (p := p) (by rw [h1]; decide)
    have hdec : decide (g p = 123) = true := decide_eq_true h1
    by_cases h2 : 24 ≤ dp
    · have E : jGo g (m + 1) none dp p = .error p := by unfold jGo; rw [if_pos (Or.inl h1), if_pos h2]
      rw [E]
      exact ⟨fun e he => by cases he; exact jv_b1t Γ (by omega) hT hn htp hg hok hN hp hVp hLp h1 h2 hdp, fun xs c q ho => nomatch ho⟩
    · by_cases hc : g (jSk g 4096 (p + 1)) = 125
      · have E : jGo g (m + 1) none dp p = .ok ([(1, p, 0, [], none, 0, 1, false)], 1, jSk g 4096 (p + 1) + 1) := by unfold jGo; rw [if_pos (Or.inl h1), if_neg h2, hdec]; exact if_pos hc
        rw [E]
        exact ⟨fun e he => (nomatch he), fun xs c q ho => by cases ho; exact jv_b2t Γ (by omega) hT hn htp hg hok hN hp hVp hLp h1 (by omega) hc⟩
      · cases hi : jGo g m (some (true, [])) dp (jSk g 4096 (p + 1)) with
        | error e9 =>
          have E : jGo g (m + 1) none dp p = .error e9 := by unfold jGo; rw [if_pos (Or.inl h1), if_neg h2, hdec]; refine (if_neg hc).trans ?_; rw [hi]
          rw [E]
          exact ⟨fun e he => by cases he; exact jv_b3tE Γ hT hn htp hg hok hN hp hVp hLp (by omega) h1 (by omega) hc hIV (by omega) hi, fun xs c q ho => nomatch ho⟩
        | ok r9 =>
          obtain ⟨xs9, c9, q9⟩ := r9
          have E : jGo g (m + 1) none dp p = .ok ((1, p, 0, [], none, c9, xs9.length + 1, false) :: xs9, 1, q9) := by unfold jGo; rw [if_pos (Or.inl h1), if_neg h2, hdec]; refine (if_neg hc).trans ?_; rw [hi] <;> rfl
          rw [E]
          exact ⟨fun e he => (nomatch he), fun xs c q ho => by cases ho; exact jv_b3t Γ hT hn htp hg hok hN hp hVp hLp (by omega) h1 (by omega) hc hIV (by omega) hi⟩
  rename (¬ g p = 123) => n1
  by_cases h1 : g p = 91
  · have hlt := hN.lt (p := p) (by rw [h1]; decide)
    have hdec : decide (g p = 123) = false := decide_eq_false n1
    by_cases h2 : 24 ≤ dp
    · have E : jGo g (m + 1) none dp p = .error p := by unfold jGo; rw [if_pos (Or.inr h1), if_pos h2]
      rw [E]
      exact ⟨fun e he => by cases he; exact jv_b1f Γ (by omega) hT hn htp hg hok hN hp hVp hLp n1 h1 h2 hdp, fun xs c q ho => nomatch ho⟩
    · by_cases hc : g (jSk g 4096 (p + 1)) = 93
      · have E : jGo g (m + 1) none dp p = .ok ([(2, p, 0, [], none, 0, 1, false)], 1, jSk g 4096 (p + 1) + 1) := by unfold jGo; rw [if_pos (Or.inr h1), if_neg h2, hdec]; exact if_pos hc
        rw [E]
        exact ⟨fun e he => (nomatch he), fun xs c q ho => by cases ho; exact jv_b2f Γ (by omega) hT hn htp hg hok hN hp hVp hLp n1 h1 (by omega) hc⟩
      · cases hi : jGo g m (some (false, [])) dp (jSk g 4096 (p + 1)) with
        | error e9 =>
          have E : jGo g (m + 1) none dp p = .error e9 := by unfold jGo; rw [if_pos (Or.inr h1), if_neg h2, hdec]; refine (if_neg hc).trans ?_; rw [hi]
          rw [E]
          exact ⟨fun e he => by cases he; exact jv_b3fE Γ hT hn htp hg hok hN hp hVp hLp (by omega) n1 h1 (by omega) hc hIV (by omega) hi, fun xs c q ho => nomatch ho⟩
        | ok r9 =>
          obtain ⟨xs9, c9, q9⟩ := r9
          have E : jGo g (m + 1) none dp p = .ok ((2, p, 0, [], none, c9, xs9.length + 1, false) :: xs9, 1, q9) := by unfold jGo; rw [if_pos (Or.inr h1), if_neg h2, hdec]; refine (if_neg hc).trans ?_; rw [hi] <;> rfl
          rw [E]
          exact ⟨fun e he => (nomatch he), fun xs c q ho => by cases ho; exact jv_b3f Γ hT hn htp hg hok hN hp hVp hLp (by omega) n1 h1 (by omega) hc hIV (by omega) hi⟩
  rename (¬ g p = 91) => n2
  have n12 : ¬ (g p = 123 ∨ g p = 91) := fun h => h.elim n1 n2
  by_cases h1 : g p = 34
  · cases hi : jStr g 4097 (p + 1) with
    | error e9 =>
      have E : jGo g (m + 1) none dp p = .error e9 := by unfold jGo; rw [if_neg n12, if_pos h1, hi]
      rw [E]
      exact ⟨fun e he => by cases he; exact jv_strE Γ (by omega) hT hn htp hg hok hN hp hVp hLp n1 n2 h1 hi, fun xs c q ho => nomatch ho⟩
    | ok r9 =>
      obtain ⟨ws9, q9⟩ := r9
      have E : jGo g (m + 1) none dp p = .ok ([(3, p, 0, ws9, none, 0, 1, false)], 1, q9) := by unfold jGo; rw [if_neg n12, if_pos h1, hi] <;> rfl
      rw [E]
      exact ⟨fun e he => (nomatch he), fun xs c q ho => by cases ho; exact jv_str Γ (by omega) hT hn htp hg hok hN hp hVp hLp n1 n2 h1 hi⟩
  rename (¬ g p = 34) => n3
  by_cases h1 : g p = 116
  · cases hi : jLit g [116, 114, 117, 101] 4 0 p with
    | error e9 =>
      have E : jGo g (m + 1) none dp p = .error e9 := by unfold jGo; rw [if_neg n12, if_neg n3, if_pos h1, hi] <;> rfl
      rw [E]
      exact ⟨fun e he => by cases he; exact jv_w5E Γ (by omega) hT hn htp hg hok hN hp hVp hLp n1 n2 n3 h1 hi, fun xs c q ho => nomatch ho⟩
    | ok q9 =>
      have E : jGo g (m + 1) none dp p = .ok ([(5, p, 0, [], none, 0, 1, false)], 1, q9) := by unfold jGo; rw [if_neg n12, if_neg n3, if_pos h1, hi] <;> rfl
      rw [E]
      exact ⟨fun e he => (nomatch he), fun xs c q ho => by cases ho; exact jv_w5 Γ (by omega) hT hn htp hg hok hN hp hVp hLp n1 n2 n3 h1 hi⟩
  rename (¬ g p = 116) => n4
  by_cases h1 : g p = 102
  · cases hi : jLit g [102, 97, 108, 115, 101] 5 0 p with
    | error e9 =>
      have E : jGo g (m + 1) none dp p = .error e9 := by unfold jGo; rw [if_neg n12, if_neg n3, if_neg n4, if_pos h1, hi] <;> rfl
      rw [E]
      exact ⟨fun e he => by cases he; exact jv_w6E Γ (by omega) hT hn htp hg hok hN hp hVp hLp n1 n2 n3 n4 h1 hi, fun xs c q ho => nomatch ho⟩
    | ok q9 =>
      have E : jGo g (m + 1) none dp p = .ok ([(6, p, 0, [], none, 0, 1, false)], 1, q9) := by unfold jGo; rw [if_neg n12, if_neg n3, if_neg n4, if_pos h1, hi] <;> rfl
      rw [E]
      exact ⟨fun e he => (nomatch he), fun xs c q ho => by cases ho; exact jv_w6 Γ (by omega) hT hn htp hg hok hN hp hVp hLp n1 n2 n3 n4 h1 hi⟩
  rename (¬ g p = 102) => n5
  by_cases h1 : g p = 110
  · cases hi : jLit g [110, 117, 108, 108] 4 0 p with
    | error e9 =>
      have E : jGo g (m + 1) none dp p = .error e9 := by unfold jGo; rw [if_neg n12, if_neg n3, if_neg n4, if_neg n5, if_pos h1, hi] <;> rfl
      rw [E]
      exact ⟨fun e he => by cases he; exact jv_w7E Γ (by omega) hT hn htp hg hok hN hp hVp hLp n1 n2 n3 n4 n5 h1 hi, fun xs c q ho => nomatch ho⟩
    | ok q9 =>
      have E : jGo g (m + 1) none dp p = .ok ([(7, p, 0, [], none, 0, 1, false)], 1, q9) := by unfold jGo; rw [if_neg n12, if_neg n3, if_neg n4, if_neg n5, if_pos h1, hi] <;> rfl
      rw [E]
      exact ⟨fun e he => (nomatch he), fun xs c q ho => by cases ho; exact jv_w7 Γ (by omega) hT hn htp hg hok hN hp hVp hLp n1 n2 n3 n4 n5 h1 hi⟩
  rename (¬ g p = 110) => n6
  cases hi : jNum g p with
  | error e9 =>
    have E : jGo g (m + 1) none dp p = .error e9 := by unfold jGo; rw [if_neg n12, if_neg n3, if_neg n4, if_neg n5, if_neg n6, hi]
    rw [E]
    refine ⟨fun e he => ?_, fun xs c q ho => nomatch ho⟩
    cases he
    rcases jNum_erc hi with ⟨hm9, ⟨hz, rfl⟩ | ⟨hz, he9, hr⟩⟩ | ⟨hm9, ⟨hz, rfl⟩ | ⟨hz, he9, hr⟩⟩
    · exact jv_n1E Γ (by omega) hT hn htp hg hok hN hp hVp hLp n1 n2 n3 n4 n5 n6 hm9 hz
    · rw [he9]; exact jv_n1F Γ (by omega) hT hn htp hg hok hN hp hVp hLp n1 n2 n3 n4 n5 n6 hm9 hz (q := (jDig g (-9223372036854775808) (if g (p + 1) = 48 then 1 else 4096) (p + 1) 1 0).1) (i1 := (jDig g (-9223372036854775808) (if g (p + 1) = 48 then 1 else 4096) (p + 1) 1 0).2.1) (s1 := (jDig g (-9223372036854775808) (if g (p + 1) = 48 then 1 else 4096) (p + 1) 1 0).2.2) rfl hr
    · exact jv_n0E Γ (by omega) hT hn htp hg hok hN hp hVp hLp n1 n2 n3 n4 n5 n6 hm9 hz
    · rw [he9]; exact jv_n0F Γ (by omega) hT hn htp hg hok hN hp hVp hLp n1 n2 n3 n4 n5 n6 hm9 hz (q := (jDig g (-9223372036854775807) (if g p = 48 then 1 else 4096) p 1 0).1) (i1 := (jDig g (-9223372036854775807) (if g p = 48 then 1 else 4096) p 1 0).2.1) (s1 := (jDig g (-9223372036854775807) (if g p = 48 then 1 else 4096) p 1 0).2.2) rfl hr
  | ok r9 =>
    obtain ⟨q9, x9⟩ := r9
    have E : jGo g (m + 1) none dp p = .ok ([(4, p, x9, [], none, 0, 1, false)], 1, q9) := by unfold jGo; rw [if_neg n12, if_neg n3, if_neg n4, if_neg n5, if_neg n6, hi]
    rw [E]
    refine ⟨fun e he => (nomatch he), fun xs c q ho => ?_⟩
    cases ho
    rcases jNum_okc hi with ⟨hm9, hz, i1, s1, hr, hi1, rfl⟩ | ⟨hm9, hz, i1, s1, hr, hi1, rfl⟩
    · exact jv_n1 Γ (by omega) hT hn htp hg hok hN hp hVp hLp n1 n2 n3 n4 n5 n6 hm9 hz hr hi1
    · exact jv_n0 Γ (by omega) hT hn htp hg hok hN hp hVp hLp n1 n2 n3 n4 n5 n6 hm9 hz hr hi1
