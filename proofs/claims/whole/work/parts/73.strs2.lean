theorem sk_start {s : State} {A : Array Value} (h : (Jvm.Cond.and given_1 narrow_1).before A s = true) (hts0 : ∀ w ∈ lw_tbl, w.before A s = true) : ∃ adK adV, SK adK adV (fun q => s.heap.size ≤ q) s s.heap := by
  have hs := flat_of_before _ h
  have hA : ∀ a : Nat, a < s.heap.size → ¬ (fun q : Nat => s.heap.size ≤ q) a := fun a ha => Nat.not_le.mpr ha
  obtain ⟨adK, adV, e1, e2⟩ := vk_Sof (args := A) (s := s) (N := 11) (tm := tmS) (len := lenS) (byt := bytS) (A := fun q => s.heap.size ≤ q) (fun i hi => by have := len_s i hi; omega) (fun i hi => hs _ (m_ex i hi)) (fun i hi => hs _ (m_co i hi)) (fun i hi => hs _ (m_ar i hi)) (fun i hi => hs _ (m_le i hi)) (fun i hi j hj => hs _ (m_el i hi j hj)) (fun i j hi hj hij => by
    rcases m_ne i hi j hj with q | q | q
    · exact absurd q hij
    · exact Or.inl (hs _ q)
    · exact Or.inr (hs _ q)) hA
  have hr : ∀ i, i < 11 → vk_R "CalledTouches$Start" (kS.getD i 0) (litS.getD i "") (adK i) s := fun i hi => vk_R.of (hts0 _ (qref i hi)) (e2 i hi)
  exact ⟨adK, adV, e1, va_Zof (hts0 _ qlay) (hts0 _ qini) (va_eqt (hs _ m_cs)) hA, hr 0 (by decide), hr 1 (by decide), hr 2 (by decide), hr 3 (by decide), hr 4 (by decide), hr 5 (by decide), hr 6 (by decide), hr 7 (by decide), hr 8 (by decide), hr 9 (by decide), hr 10 (by decide)⟩
